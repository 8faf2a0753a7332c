def fX7_guest (f : Nat → Int32) (M : Nat → Int32) (v : Int32) (a : Int32) : Int32 × ((Nat → Int32) × (Nat → Int32)) :=
  (bd ((if (fX7_isFamily v) = 0 then 1 else (if (fX7_in a 1 3) = 0 then 1 else (if (f 0) = 16 then 2 else 0))) : Nat) (fun v5_0 => (bd2 (fX7_holds M (nI v5_0)) (fun r37 U37 => (if r37 = 0 then (0, (f, U37)) else (bd (fX7_save f U37) (fun U46 => (bd (fX7_lay (upd U46.1 0 ((U46.1 0) + 1)) 0 ((U46.1 0).toNatClampNeg) 0 v) (fun U71 => (bd (fX7_lay U71 0 ((U46.1 0).toNatClampNeg) 1 a) (fun U79 => (bd (fX7_lay U79 0 ((U46.1 0).toNatClampNeg) 2 (-1)) (fun U87 => (bd (fX7_lay U87 0 ((U46.1 0).toNatClampNeg) 3 (-1)) (fun U95 => (bd (fX7_lay U95 0 ((U46.1 0).toNatClampNeg) 4 (-1)) (fun U103 => ((nI (U46.1 0).toNatClampNeg), (U103, U46.2)))))))))))))))))))
abbrev rmX7_guest : Room := { frames := 2, cells := 0, slots := 0, locals := 44 }
set_option maxHeartbeats 4000000 in
set_option maxRecDepth 100000 in
theorem mX7_guest (l : Launch) (dC : Nat → ClassId) (dI : Nat → Nat → Nat) (cI : ClassId) (o q0 q1 : Nat) (f x M : Nat → Int32) (h : Int64) (v : Int32) (a : Int32) (hR : RW f 0) (m1 : Nat) (hm1 : m1 ≤ 6) (em1 : M 1 = nI m1) : Met l yX7_guest (ws_ yX7_guest cX7_guest 4 (some .int)) rmX7_guest (pcM (dC, dI) [(cI, .int)] (mW cI o q0 q1 f x M h) [.ref o, .int v, .int a]) (va_Qi (fun (r9 : Int32) (u9 : (Nat → Int32) × (Nat → Int32)) => (r9, u9) = fX7_guest f M v a) (fun u9 t => va_P (dC, dI) vwCl ((fun (v9 : (Nat → Int32) × (Nat → Int32)) => mW cI o q0 q1 v9.1 x v9.2 h) u9) t.heap) (adr (mW cI o q0 q1 f x M h))) 0 0 (adr (mW cI o q0 q1 f x M h)) := by
  refine Met.ofW (cc := cX7_guest) (maxL := 4) (ret := (some .int)) (by decide) rfl ?_
  intro p e s m args below meth c s₁ B hml hv
  obtain ⟨ha, hP, hK, hn, hD0⟩ := hv
  have hx := B.exec
  have hb := B.bytes
  have hr := B.returns
  have hts0 := atoms_spec (ws := (ws_ yX7_guest cX7_guest 4 (some .int))) B.pre
  have hts : ∀ w ∈ lw_all, w.before args s = true := fun w h => hts0 w (List.mem_cons_of_mem _ h)
  have hown : s.vm.findClass RX7 = some m.cls := findClass_of_methodNamed B.named
  have hlocks := B.notSynchronized
  have htX7 : ∀ w ∈ wsX70, w.before args s = true := fun w h => hts w (wX7 w h)
  have hD := adr_self hD0
  obtain ⟨A, hA⟩ : ∃ A, A = adr (mW cI o q0 q1 f x M h) := ⟨_, rfl⟩
  rw [← hA] at hD
  have hS : va_S A s.heap s.heap [] := va_S.rf
  obtain ⟨Q, hQ⟩ : ∃ Q, Q = MQ below (va_Qi (fun (r9 : Int32) (u9 : (Nat → Int32) × (Nat → Int32)) => (r9, u9) = fX7_guest f M v a) (fun u9 t => va_P (dC, dI) vwCl ((fun (v9 : (Nat → Int32) × (Nat → Int32)) => mW cI o q0 q1 v9.1 x v9.2 h) u9) t.heap) (adr (mW cI o q0 q1 f x M h))) args s 0 0 (adr (mW cI o q0 q1 f x M h)) := ⟨_, rfl⟩
  rw [← hQ]
  rw [← hA] at hQ
  have hl := lv_entry ([.ref o, .int v, .int a]) (n := 4) (Nat.le_of_ble_eq_true rfl)
  rw [ha, lg_entry_eq, ← ha]
  generalize (lg_sl ([.ref o, .int v, .int a]) ++ List.replicate (4 - (lg_sl ([.ref o, .int v, .int a])).length) Slot.unset).toArray = ls at hl ⊢
  have hl : lv_has ls 4 [(0, .ref o), (1, .int v), (2, .int a)] := hl
  show W p l e rmX7_guest s m args below meth c s.heap [] 0 0 Q (F0 m 0 ls [])
  have hF : fX7_guest f M v a = fX7_guest f M v a := rfl
  refine lv_aload_n hx hb dX7_guest_0 rfl (lv_at hl 0 rfl) ?_
  refine lv_iload_n hx hb dX7_guest_1 rfl (lv_at hl 1 rfl) ?_
  refine k_callb (W.runS (As := [.int v]) (rest := [.ref o]) ⟨hx, hb, hml, hown, hts0⟩ (mX7_isFamily l dC dI  v) (va_cwS 1 hts0 (gi_S u_902 u_903 u_7 u_904) rfl rfl rfl (by decide +kernel) ⟨Nat.le_of_ble_eq_true rfl, Nat.le_of_ble_eq_true rfl⟩) (pcR_S (hP.sub (ws' := []) [] rfl) (hK.sub (tys' := []) [] rfl) hn) rfl rfl hl.1 rfl (lv_room (Nat.le_of_ble_eq_true rfl)) dX7_guest_2 ⟨Nat.zero_le _, Nat.zero_le _⟩) (fun br2 => ?_)
  have K5 : ∀ (v5_0 : Nat), v5_0 = (if (fX7_isFamily v) = 0 then 1 else (if (fX7_in a 1 3) = 0 then 1 else (if (f 0) = 16 then 2 else 0))) → ∀ (H : Heap) (locs : List Loc), va_P (dC, dI) vwCl (mW cI o q0 q1 f x M h) H → va_D A (mW cI o q0 q1 f x M h) → va_S A s.heap H locs → ∀ (ls : Array Slot), lv_has ls 4 [(0, .ref o), (1, .int v), (2, .int a)] → W p l e rmX7_guest s m args below meth c H locs 0 0 Q (F0 m 37 ls [.int (nI v5_0), .ref o]) := by
    intro v5_0 hz5 H locs hP hD hS ls hl
    have hz := hz5
    have hF := bd_at hF hz
    refine k_muti (Wd := (fun (v9 : (Nat → Int32)) => mW cI o q0 q1 f x v9 h)) (va_runV (As := [.int (nI v5_0)]) (rest := []) ⟨hx, hb, hml, hown, hts0⟩ (mX7_holds l dC dI cI o q0 q1 f x M h (nI v5_0)) (cwV 1 hts0 (gi_V u_908 u_910 us_15 u_7 u_911) rfl rfl rfl (by decide +kernel) ⟨Nat.le_of_ble_eq_true rfl, Nat.le_of_ble_eq_true rfl⟩) (pcM_V (ci := 5) (q0 := 0) hP hK hn hD rfl rfl) rfl rfl hl.1 rfl (lv_room (Nat.le_of_ble_eq_true rfl)) dX7_guest_37 ⟨Nat.zero_le _, Nat.zero_le _⟩) hP hD hS [0, 1, 2] rfl rfl (fun _ => rfl) (fun r37 U37 H locs hU37 hP hD hS => ?_)
    obtain ⟨hU37, br37⟩ := hU37
    have hP : va_P (dC, dI) vwCl (mW cI o q0 q1 f x U37 h) H := hP
    have hD : va_D A (mW cI o q0 q1 f x U37 h) := hD
    have hF := bd2_at hF hU37
    refine lv_if_ne (tgt := 45) hx hb dX7_guest_40 (by decide) (fun c_40 => ?_) (fun c_40 => ?_)
    · have hF := hF.trans (if_neg c_40)
      have em2 : U37 1 = nI m1 := (holds_M hU37 (by decide)).trans em1
      refine lv_aload_n hx hb dX7_guest_45 rfl (lv_at hl 0 rfl) ?_
      refine k_mutv (Wd := (fun (v9 : (Nat → Int32) × (Nat → Int32)) => mW cI o q0 q1 v9.1 x v9.2 h)) (va_runV (As := []) (rest := []) ⟨hx, hb, hml, hown, hts0⟩ (mX7_save l dC dI cI o q0 q1 f x U37 h  m1 hm1 em2) (cwV 0 hts0 (gi_V u_912 u_914 us_16 u_7 u_915) rfl rfl rfl (by decide +kernel) ⟨Nat.le_of_ble_eq_true rfl, Nat.le_of_ble_eq_true rfl⟩) (pcM_V (ci := 5) (q0 := 0) hP hK hn hD rfl rfl) rfl rfl hl.1 rfl (lv_room (Nat.le_of_ble_eq_true rfl)) dX7_guest_46 ⟨Nat.zero_le _, Nat.zero_le _⟩) hP hD hS [0, 1, 2] rfl rfl (fun _ => rfl) (fun U46 H locs hU46 hP hD hS => ?_)
      have hP : va_P (dC, dI) vwCl (mW cI o q0 q1 U46.1 x U46.2 h) H := hP
      have hD : va_D A (mW cI o q0 q1 U46.1 x U46.2 h) := hD
      have hF := bd_at hF hU46
      have hR2 : RW U46.1 0 := by rw [hU46]; exact RW_save hm1 em2 hR
      obtain ⟨-, rG20, rT20, rF20, rS20, -, -⟩ := id hR2
      have hg2 : U46.1 0 = nI (U46.1 0).toNatClampNeg := rG20.e (by decide)
      have rg2 : (U46.1 0).toNatClampNeg ≤ 16 := rG20.c (by decide)
      have ht2 : U46.1 1 = nI (U46.1 1).toNatClampNeg := rT20.e (by decide)
      have rt2 : (U46.1 1).toNatClampNeg ≤ 4 := rT20.c (by decide)
      refine lv_aload_n hx hb dX7_guest_49 rfl (lv_at hl 0 rfl) ?_
      refine va_get (D := (dC, dI)) (ci := 5) (v := .ref q0) (C := RX7) (T := TX7) (N := 12) hx hb htX7 (fun _ h => h) hown hK hP 0 rfl rfl 1 (by decide) (hts _ u_858) (fun _ h9 => h9) rfl dX7_guest_50 ?_
      refine lv_iconst (v := 0) hx hb dX7_guest_53 (by decide) ?_
      refine va_iald hx hb hK hP 1 0 rfl rfl (vp_in_nI (n := 0) (by omega) (by decide)) dX7_guest_54 ?_
      refine lv_tope (y := (U46.1 0)) (at_nI (k := 0) (by omega)) ?_
      refine lv_tope (y := (nI (U46.1 0).toNatClampNeg)) hg2 ?_
      refine lv_istore_n (lv' := [(3, .int (nI (U46.1 0).toNatClampNeg)), (0, .ref o), (1, .int v), (2, .int a)]) hx hb dX7_guest_55 rfl hl (by decide) rfl (fun ls hl => ?_)
      refine lv_aload_n hx hb dX7_guest_56 rfl (lv_at hl 1 rfl) ?_
      refine va_get (D := (dC, dI)) (ci := 5) (v := .ref q0) (C := RX7) (T := TX7) (N := 12) hx hb htX7 (fun _ h => h) hown hK hP 0 rfl rfl 1 (by decide) (hts _ u_858) (fun _ h9 => h9) rfl dX7_guest_57 ?_
      refine lv_iconst (v := 0) hx hb dX7_guest_60 (by decide) ?_
      refine lv_dup2_11 hx hb dX7_guest_61 rfl rfl ?_
      refine va_iald hx hb hK hP 1 0 rfl rfl (vp_in_nI (n := 0) (by omega) (by decide)) dX7_guest_62 ?_
      refine lv_tope (y := (U46.1 0)) (at_nI (k := 0) (by omega)) ?_
      refine lv_iconst (v := 1) hx hb dX7_guest_63 (by decide) ?_
      refine lv_iadd hx hb dX7_guest_64 ?_
      refine va_iast hx hb hK hP hD hS 1 0 rfl rfl (vp_in_nI (n := 0) (by omega) (by decide)) dX7_guest_65 (fun H locs hP hD hS => ?_)
      rw [show (0 : Int32).toNatClampNeg = 0 from nI_clamp (n := 0) (by omega)] at hP hD
      have hP : va_P (dC, dI) vwCl (mW cI o q0 q1 (upd U46.1 0 ((U46.1 0) + 1)) x U46.2 h) H := hP
      have hD : va_D A (mW cI o q0 q1 (upd U46.1 0 ((U46.1 0) + 1)) x U46.2 h) := hD
      refine lv_aload_n hx hb dX7_guest_66 rfl (lv_at hl 1 rfl) ?_
      refine lv_iconst (v := 0) hx hb dX7_guest_67 (by decide) ?_
      refine lv_iload_n hx hb dX7_guest_68 rfl (lv_at hl 0 rfl) ?_
      refine lv_iconst (v := 0) hx hb dX7_guest_69 (by decide) ?_
      refine lv_iload_n hx hb dX7_guest_70 rfl (lv_at hl 2 rfl) ?_
      refine k_mutv (Wd := (fun (v9 : (Nat → Int32)) => mW cI o q0 q1 v9 x U46.2 h)) (va_runV (As := [.int 0, .int (nI (U46.1 0).toNatClampNeg), .int 0, .int v]) (rest := []) ⟨hx, hb, hml, hown, hts0⟩ (mX7_lay l dC dI cI o q0 q1 (upd U46.1 0 ((U46.1 0) + 1)) x U46.2 h 0 ((U46.1 0).toNatClampNeg) 0 v (by first | omega | assumption)) (cwV 4 hts0 (gi_V u_920 u_922 us_18 u_7 u_923) rfl rfl rfl (by decide +kernel) ⟨Nat.le_of_ble_eq_true rfl, Nat.le_of_ble_eq_true rfl⟩) (pcM_V (ci := 5) (q0 := 0) hP hK hn hD rfl rfl) rfl rfl hl.1 rfl (lv_room (Nat.le_of_ble_eq_true rfl)) dX7_guest_71 ⟨Nat.zero_le _, Nat.zero_le _⟩) hP hD hS [0, 1, 2] rfl rfl (fun _ => rfl) (fun U71 H locs hU71 hP hD hS => ?_)
      have hP : va_P (dC, dI) vwCl (mW cI o q0 q1 U71 x U46.2 h) H := hP
      have hD : va_D A (mW cI o q0 q1 U71 x U46.2 h) := hD
      have hF := bd_at hF hU71
      refine lv_aload_n hx hb dX7_guest_74 rfl (lv_at hl 1 rfl) ?_
      refine lv_iconst (v := 0) hx hb dX7_guest_75 (by decide) ?_
      refine lv_iload_n hx hb dX7_guest_76 rfl (lv_at hl 0 rfl) ?_
      refine lv_iconst (v := 1) hx hb dX7_guest_77 (by decide) ?_
      refine lv_iload_n hx hb dX7_guest_78 rfl (lv_at hl 3 rfl) ?_
      refine k_mutv (Wd := (fun (v9 : (Nat → Int32)) => mW cI o q0 q1 v9 x U46.2 h)) (va_runV (As := [.int 0, .int (nI (U46.1 0).toNatClampNeg), .int 1, .int a]) (rest := []) ⟨hx, hb, hml, hown, hts0⟩ (mX7_lay l dC dI cI o q0 q1 U71 x U46.2 h 0 ((U46.1 0).toNatClampNeg) 1 a (by first | omega | assumption)) (cwV 4 hts0 (gi_V u_920 u_922 us_18 u_7 u_923) rfl rfl rfl (by decide +kernel) ⟨Nat.le_of_ble_eq_true rfl, Nat.le_of_ble_eq_true rfl⟩) (pcM_V (ci := 5) (q0 := 0) hP hK hn hD rfl rfl) rfl rfl hl.1 rfl (lv_room (Nat.le_of_ble_eq_true rfl)) dX7_guest_79 ⟨Nat.zero_le _, Nat.zero_le _⟩) hP hD hS [0, 1, 2] rfl rfl (fun _ => rfl) (fun U79 H locs hU79 hP hD hS => ?_)
      have hP : va_P (dC, dI) vwCl (mW cI o q0 q1 U79 x U46.2 h) H := hP
      have hD : va_D A (mW cI o q0 q1 U79 x U46.2 h) := hD
      have hF := bd_at hF hU79
      refine lv_aload_n hx hb dX7_guest_82 rfl (lv_at hl 1 rfl) ?_
      refine lv_iconst (v := 0) hx hb dX7_guest_83 (by decide) ?_
      refine lv_iload_n hx hb dX7_guest_84 rfl (lv_at hl 0 rfl) ?_
      refine lv_iconst (v := 2) hx hb dX7_guest_85 (by decide) ?_
      refine lv_iconst (v := (-1)) hx hb dX7_guest_86 (by decide) ?_
      refine k_mutv (Wd := (fun (v9 : (Nat → Int32)) => mW cI o q0 q1 v9 x U46.2 h)) (va_runV (As := [.int 0, .int (nI (U46.1 0).toNatClampNeg), .int 2, .int (-1)]) (rest := []) ⟨hx, hb, hml, hown, hts0⟩ (mX7_lay l dC dI cI o q0 q1 U79 x U46.2 h 0 ((U46.1 0).toNatClampNeg) 2 (-1) (by first | omega | assumption)) (cwV 4 hts0 (gi_V u_920 u_922 us_18 u_7 u_923) rfl rfl rfl (by decide +kernel) ⟨Nat.le_of_ble_eq_true rfl, Nat.le_of_ble_eq_true rfl⟩) (pcM_V (ci := 5) (q0 := 0) hP hK hn hD rfl rfl) rfl rfl hl.1 rfl (lv_room (Nat.le_of_ble_eq_true rfl)) dX7_guest_87 ⟨Nat.zero_le _, Nat.zero_le _⟩) hP hD hS [0, 1, 2] rfl rfl (fun _ => rfl) (fun U87 H locs hU87 hP hD hS => ?_)
      have hP : va_P (dC, dI) vwCl (mW cI o q0 q1 U87 x U46.2 h) H := hP
      have hD : va_D A (mW cI o q0 q1 U87 x U46.2 h) := hD
      have hF := bd_at hF hU87
      refine lv_aload_n hx hb dX7_guest_90 rfl (lv_at hl 1 rfl) ?_
      refine lv_iconst (v := 0) hx hb dX7_guest_91 (by decide) ?_
      refine lv_iload_n hx hb dX7_guest_92 rfl (lv_at hl 0 rfl) ?_
      refine lv_iconst (v := 3) hx hb dX7_guest_93 (by decide) ?_
      refine lv_iconst (v := (-1)) hx hb dX7_guest_94 (by decide) ?_
      refine k_mutv (Wd := (fun (v9 : (Nat → Int32)) => mW cI o q0 q1 v9 x U46.2 h)) (va_runV (As := [.int 0, .int (nI (U46.1 0).toNatClampNeg), .int 3, .int (-1)]) (rest := []) ⟨hx, hb, hml, hown, hts0⟩ (mX7_lay l dC dI cI o q0 q1 U87 x U46.2 h 0 ((U46.1 0).toNatClampNeg) 3 (-1) (by first | omega | assumption)) (cwV 4 hts0 (gi_V u_920 u_922 us_18 u_7 u_923) rfl rfl rfl (by decide +kernel) ⟨Nat.le_of_ble_eq_true rfl, Nat.le_of_ble_eq_true rfl⟩) (pcM_V (ci := 5) (q0 := 0) hP hK hn hD rfl rfl) rfl rfl hl.1 rfl (lv_room (Nat.le_of_ble_eq_true rfl)) dX7_guest_95 ⟨Nat.zero_le _, Nat.zero_le _⟩) hP hD hS [0, 1, 2] rfl rfl (fun _ => rfl) (fun U95 H locs hU95 hP hD hS => ?_)
      have hP : va_P (dC, dI) vwCl (mW cI o q0 q1 U95 x U46.2 h) H := hP
      have hD : va_D A (mW cI o q0 q1 U95 x U46.2 h) := hD
      have hF := bd_at hF hU95
      refine lv_aload_n hx hb dX7_guest_98 rfl (lv_at hl 1 rfl) ?_
      refine lv_iconst (v := 0) hx hb dX7_guest_99 (by decide) ?_
      refine lv_iload_n hx hb dX7_guest_100 rfl (lv_at hl 0 rfl) ?_
      refine lv_iconst (v := 4) hx hb dX7_guest_101 (by decide) ?_
      refine lv_iconst (v := (-1)) hx hb dX7_guest_102 (by decide) ?_
      refine k_mutv (Wd := (fun (v9 : (Nat → Int32)) => mW cI o q0 q1 v9 x U46.2 h)) (va_runV (As := [.int 0, .int (nI (U46.1 0).toNatClampNeg), .int 4, .int (-1)]) (rest := []) ⟨hx, hb, hml, hown, hts0⟩ (mX7_lay l dC dI cI o q0 q1 U95 x U46.2 h 0 ((U46.1 0).toNatClampNeg) 4 (-1) (by first | omega | assumption)) (cwV 4 hts0 (gi_V u_920 u_922 us_18 u_7 u_923) rfl rfl rfl (by decide +kernel) ⟨Nat.le_of_ble_eq_true rfl, Nat.le_of_ble_eq_true rfl⟩) (pcM_V (ci := 5) (q0 := 0) hP hK hn hD rfl rfl) rfl rfl hl.1 rfl (lv_room (Nat.le_of_ble_eq_true rfl)) dX7_guest_103 ⟨Nat.zero_le _, Nat.zero_le _⟩) hP hD hS [0, 1, 2] rfl rfl (fun _ => rfl) (fun U103 H locs hU103 hP hD hS => ?_)
      have hP : va_P (dC, dI) vwCl (mW cI o q0 q1 U103 x U46.2 h) H := hP
      have hD : va_D A (mW cI o q0 q1 U103 x U46.2 h) := hD
      have hF := bd_at hF hU103
      refine lv_iload_n hx hb dX7_guest_106 rfl (lv_at hl 0 rfl) ?_
      rw [hQ]
      exact W.iret (v := (nI (U46.1 0).toNatClampNeg)) hx hb hr (fun t ht hW => ⟨⟨(nI (U46.1 0).toNatClampNeg), (U103, U46.2), rfl, hF.symm, toH ht hP⟩, hS.F ht⟩) hS.2.2 dX7_guest_107
    have hF := hF.trans (if_pos c_40)
    refine lv_iconst (v := 0) hx hb dX7_guest_43 (by decide) ?_
    rw [hQ]
    exact W.iret (v := 0) hx hb hr (fun t ht hW => ⟨⟨0, (f, U37), rfl, hF.symm, toH ht hP⟩, hS.F ht⟩) hS.2.2 dX7_guest_44
  have hF : ((if (fX7_isFamily v) = 0 then 1 else (if (fX7_in a 1 3) = 0 then 1 else (if (f 0) = 16 then 2 else 0))) : Nat) = (if (fX7_isFamily v) = 0 then 1 else (if (fX7_in a 1 3) = 0 then 1 else (if (f 0) = 16 then 2 else 0))) := rfl
  refine lv_if_eq (tgt := 17) hx hb dX7_guest_5 (by decide) (fun c_5 => ?_) (fun c_5 => ?_)
  · have hF := hF.trans (if_pos c_5)
    refine lv_iconst (v := 1) hx hb dX7_guest_17 (by decide) ?_
    refine lv_goto (tgt := 37) hx hb dX7_guest_18 (by decide) ?_
    exact K5 _ hF.symm _ _ hP hD hS  ls (lv_sub hl [0, 1, 2] rfl)
  have hF := hF.trans (if_neg c_5)
  refine lv_iload_n hx hb dX7_guest_8 rfl (lv_at hl 2 rfl) ?_
  refine lv_iconst (v := 1) hx hb dX7_guest_9 (by decide) ?_
  refine lv_iconst (v := 3) hx hb dX7_guest_10 (by decide) ?_
  refine k_callb (W.runS (As := [.int a, .int 1, .int 3]) (rest := [.ref o]) ⟨hx, hb, hml, hown, hts0⟩ (mX7_in l dC dI  a 1 3) (va_cwS 3 hts0 (gi_S u_905 u_906 u_7 u_907) rfl rfl rfl (by decide +kernel) ⟨Nat.le_of_ble_eq_true rfl, Nat.le_of_ble_eq_true rfl⟩) (pcR_S (hP.sub (ws' := []) [] rfl) (hK.sub (tys' := []) [] rfl) hn) rfl rfl hl.1 rfl (lv_room (Nat.le_of_ble_eq_true rfl)) dX7_guest_11 ⟨Nat.zero_le _, Nat.zero_le _⟩) (fun br11 => ?_)
  refine lv_if_ne (tgt := 21) hx hb dX7_guest_14 (by decide) (fun c_14 => ?_) (fun c_14 => ?_)
  · have hF := hF.trans (if_neg c_14)
    refine lv_aload_n hx hb dX7_guest_21 rfl (lv_at hl 0 rfl) ?_
    refine va_get (D := (dC, dI)) (ci := 5) (v := .ref q0) (C := RX7) (T := TX7) (N := 12) hx hb htX7 (fun _ h => h) hown hK hP 0 rfl rfl 1 (by decide) (hts _ u_858) (fun _ h9 => h9) rfl dX7_guest_22 ?_
    refine lv_iconst (v := 0) hx hb dX7_guest_25 (by decide) ?_
    refine va_iald hx hb hK hP 1 0 rfl rfl (vp_in_nI (n := 0) (by omega) (by decide)) dX7_guest_26 ?_
    refine lv_tope (y := (f 0)) (at_nI (k := 0) (by omega)) ?_
    refine lv_bipush (v := 16) hx hb dX7_guest_27 (by decide) ?_
    refine lv_icmp_ne (tgt := 36) hx hb dX7_guest_29 (by decide) (fun c_29 => ?_) (fun c_29 => ?_)
    · have hF := hF.trans (if_neg c_29)
      refine lv_iconst (v := 0) hx hb dX7_guest_36 (by decide) ?_
      exact K5 _ hF.symm _ _ hP hD hS  ls (lv_sub hl [0, 1, 2] rfl)
    have hF := hF.trans (if_pos c_29)
    refine lv_iconst (v := 2) hx hb dX7_guest_32 (by decide) ?_
    refine lv_goto (tgt := 37) hx hb dX7_guest_33 (by decide) ?_
    exact K5 _ hF.symm _ _ hP hD hS  ls (lv_sub hl [0, 1, 2] rfl)
  have hF := hF.trans (if_pos c_14)
  refine lv_iconst (v := 1) hx hb dX7_guest_17 (by decide) ?_
  refine lv_goto (tgt := 37) hx hb dX7_guest_18 (by decide) ?_
  exact K5 _ hF.symm _ _ hP hD hS  ls (lv_sub hl [0, 1, 2] rfl)

def fX7_wish (f : Nat → Int32) (M : Nat → Int32) (v : Int32) (a : Int32) : Int32 × ((Nat → Int32) × (Nat → Int32)) :=
  (bd ((if (fX7_isGuest f v) = 0 then 0 else (if a = (-1) then 1 else (if (fX7_isGuest f a) = 0 then 0 else 1))) : Nat) (fun v5_0 => (bd ((if (nI v5_0) = 0 then 1 else (if a = v then 2 else 0)) : Nat) (fun v29_0 => (bd2 (fX7_holds M (nI v29_0)) (fun r46 U46 => (if r46 = 0 then (0, (f, U46)) else (bd (fX7_save f U46) (fun U55 => (bd (fX7_lay U55.1 0 v.toNatClampNeg 2 a) (fun U72 => ((fX7_of U55.1 0 v.toNatClampNeg 2), (U72, U55.2)))))))))))))
abbrev rmX7_wish : Room := { frames := 2, cells := 0, slots := 0, locals := 44 }
set_option maxHeartbeats 4000000 in
set_option maxRecDepth 100000 in
theorem mX7_wish (l : Launch) (dC : Nat → ClassId) (dI : Nat → Nat → Nat) (cI : ClassId) (o q0 q1 : Nat) (f x M : Nat → Int32) (h : Int64) (v : Int32) (a : Int32) (hR : RW f 0) (m1 : Nat) (hm1 : m1 ≤ 6) (em1 : M 1 = nI m1) : Met l yX7_wish (ws_ yX7_wish cX7_wish 5 (some .int)) rmX7_wish (pcM (dC, dI) [(cI, .int)] (mW cI o q0 q1 f x M h) [.ref o, .int v, .int a]) (va_Qi (fun (r9 : Int32) (u9 : (Nat → Int32) × (Nat → Int32)) => (r9, u9) = fX7_wish f M v a) (fun u9 t => va_P (dC, dI) vwCl ((fun (v9 : (Nat → Int32) × (Nat → Int32)) => mW cI o q0 q1 v9.1 x v9.2 h) u9) t.heap) (adr (mW cI o q0 q1 f x M h))) 0 0 (adr (mW cI o q0 q1 f x M h)) := by
  refine Met.ofW (cc := cX7_wish) (maxL := 5) (ret := (some .int)) (by decide) rfl ?_
  intro p e s m args below meth c s₁ B hml hv
  obtain ⟨ha, hP, hK, hn, hD0⟩ := hv
  have hx := B.exec
  have hb := B.bytes
  have hr := B.returns
  have hts0 := atoms_spec (ws := (ws_ yX7_wish cX7_wish 5 (some .int))) B.pre
  have hts : ∀ w ∈ lw_all, w.before args s = true := fun w h => hts0 w (List.mem_cons_of_mem _ h)
  have hown : s.vm.findClass RX7 = some m.cls := findClass_of_methodNamed B.named
  have hlocks := B.notSynchronized
  have hD := adr_self hD0
  obtain ⟨A, hA⟩ : ∃ A, A = adr (mW cI o q0 q1 f x M h) := ⟨_, rfl⟩
  rw [← hA] at hD
  have hS : va_S A s.heap s.heap [] := va_S.rf
  obtain ⟨Q, hQ⟩ : ∃ Q, Q = MQ below (va_Qi (fun (r9 : Int32) (u9 : (Nat → Int32) × (Nat → Int32)) => (r9, u9) = fX7_wish f M v a) (fun u9 t => va_P (dC, dI) vwCl ((fun (v9 : (Nat → Int32) × (Nat → Int32)) => mW cI o q0 q1 v9.1 x v9.2 h) u9) t.heap) (adr (mW cI o q0 q1 f x M h))) args s 0 0 (adr (mW cI o q0 q1 f x M h)) := ⟨_, rfl⟩
  rw [← hQ]
  rw [← hA] at hQ
  have hl := lv_entry ([.ref o, .int v, .int a]) (n := 5) (Nat.le_of_ble_eq_true rfl)
  rw [ha, lg_entry_eq, ← ha]
  generalize (lg_sl ([.ref o, .int v, .int a]) ++ List.replicate (5 - (lg_sl ([.ref o, .int v, .int a])).length) Slot.unset).toArray = ls at hl ⊢
  have hl : lv_has ls 5 [(0, .ref o), (1, .int v), (2, .int a)] := hl
  show W p l e rmX7_wish s m args below meth c s.heap [] 0 0 Q (F0 m 0 ls [])
  have hF : fX7_wish f M v a = fX7_wish f M v a := rfl
  refine lv_aload_n hx hb dX7_wish_0 rfl (lv_at hl 0 rfl) ?_
  refine lv_iload_n hx hb dX7_wish_1 rfl (lv_at hl 1 rfl) ?_
  refine k_callb (W.runV (As := [.int v]) (rest := []) ⟨hx, hb, hml, hown, hts0⟩ (mX7_isGuest l dC dI cI o q0 q1 f x M h v) (cwV 1 hts0 (gi_V u_928 u_930 us_19 u_7 u_931) rfl rfl rfl (by decide +kernel) ⟨Nat.le_of_ble_eq_true rfl, Nat.le_of_ble_eq_true rfl⟩) (pcR_V (ci := 5) (q0 := 0) hP hK hn rfl rfl) rfl rfl hl.1 rfl (lv_room (Nat.le_of_ble_eq_true rfl)) dX7_wish_2 ⟨Nat.zero_le _, Nat.zero_le _⟩) (fun br2 => ?_)
  have K5 : ∀ (v5_0 : Nat), v5_0 = (if (fX7_isGuest f v) = 0 then 0 else (if a = (-1) then 1 else (if (fX7_isGuest f a) = 0 then 0 else 1))) → ∀ (H : Heap) (locs : List Loc), va_P (dC, dI) vwCl (mW cI o q0 q1 f x M h) H → va_D A (mW cI o q0 q1 f x M h) → va_S A s.heap H locs → ∀ (ls : Array Slot), lv_has ls 5 [(0, .ref o), (1, .int v), (2, .int a)] → W p l e rmX7_wish s m args below meth c H locs 0 0 Q (F0 m 26 ls [.int (nI v5_0)]) := by
    intro v5_0 hz5 H locs hP hD hS ls hl
    have hz := hz5
    have bz5 : (nI v5_0 : Int32) = 0 ∨ nI v5_0 = 1 := by rw [hz]; (repeat' split); all_goals first | exact Or.inl rfl | exact Or.inr rfl
    have hF := bd_at hF hz
    refine lv_istore_n (lv' := [(3, .int (nI v5_0)), (0, .ref o), (1, .int v), (2, .int a)]) hx hb dX7_wish_26 rfl hl (by decide) rfl (fun ls hl => ?_)
    refine lv_aload_n hx hb dX7_wish_27 rfl (lv_at hl 1 rfl) ?_
    refine lv_iload_n hx hb dX7_wish_28 rfl (lv_at hl 0 rfl) ?_
    have K29 : ∀ (v29_0 : Nat), v29_0 = (if (nI v5_0) = 0 then 1 else (if a = v then 2 else 0)) → ∀ (H : Heap) (locs : List Loc), va_P (dC, dI) vwCl (mW cI o q0 q1 f x M h) H → va_D A (mW cI o q0 q1 f x M h) → va_S A s.heap H locs → ∀ (ls : Array Slot), lv_has ls 5 [(3, .int (nI v5_0)), (0, .ref o), (1, .int v), (2, .int a)] → W p l e rmX7_wish s m args below meth c H locs 0 0 Q (F0 m 46 ls [.int (nI v29_0), .ref o]) := by
      intro v29_0 hz29 H locs hP hD hS ls hl
      have hz := hz29
      have hF := bd_at hF hz
      refine k_muti (Wd := (fun (v9 : (Nat → Int32)) => mW cI o q0 q1 f x v9 h)) (va_runV (As := [.int (nI v29_0)]) (rest := []) ⟨hx, hb, hml, hown, hts0⟩ (mX7_holds l dC dI cI o q0 q1 f x M h (nI v29_0)) (cwV 1 hts0 (gi_V u_908 u_910 us_15 u_7 u_911) rfl rfl rfl (by decide +kernel) ⟨Nat.le_of_ble_eq_true rfl, Nat.le_of_ble_eq_true rfl⟩) (pcM_V (ci := 5) (q0 := 0) hP hK hn hD rfl rfl) rfl rfl hl.1 rfl (lv_room (Nat.le_of_ble_eq_true rfl)) dX7_wish_46 ⟨Nat.zero_le _, Nat.zero_le _⟩) hP hD hS [0, 1, 2] rfl rfl (fun _ => rfl) (fun r46 U46 H locs hU46 hP hD hS => ?_)
      obtain ⟨hU46, br46⟩ := hU46
      have hP : va_P (dC, dI) vwCl (mW cI o q0 q1 f x U46 h) H := hP
      have hD : va_D A (mW cI o q0 q1 f x U46 h) := hD
      have hF := bd2_at hF hU46
      refine lv_if_ne (tgt := 54) hx hb dX7_wish_49 (by decide) (fun c_49 => ?_) (fun c_49 => ?_)
      · have hF := hF.trans (if_neg c_49)
        have hv0 := holds_ok hU46 c_49
        rw [hz29] at hv0
        have k1 : ¬ (nI v5_0) = 0 := fun z => by rw [if_pos z] at hv0; exact absurd hv0 (by decide)
        rw [hz5] at k1
        have k2 : ¬ fX7_isGuest f v = 0 := fun z => k1 (by rw [if_pos z]; rfl)
        obtain ⟨hvn, hvl, hvb⟩ := in_nat (v := v) (x := f 0) (n := 16) hR.2.1 (by decide) k2
        have em2 : U46 1 = nI m1 := (holds_M hU46 (by decide)).trans em1
        refine lv_aload_n hx hb dX7_wish_54 rfl (lv_at hl 1 rfl) ?_
        refine k_mutv (Wd := (fun (v9 : (Nat → Int32) × (Nat → Int32)) => mW cI o q0 q1 v9.1 x v9.2 h)) (va_runV (As := []) (rest := []) ⟨hx, hb, hml, hown, hts0⟩ (mX7_save l dC dI cI o q0 q1 f x U46 h  m1 hm1 em2) (cwV 0 hts0 (gi_V u_912 u_914 us_16 u_7 u_915) rfl rfl rfl (by decide +kernel) ⟨Nat.le_of_ble_eq_true rfl, Nat.le_of_ble_eq_true rfl⟩) (pcM_V (ci := 5) (q0 := 0) hP hK hn hD rfl rfl) rfl rfl hl.1 rfl (lv_room (Nat.le_of_ble_eq_true rfl)) dX7_wish_55 ⟨Nat.zero_le _, Nat.zero_le _⟩) hP hD hS [0, 1, 2] rfl rfl (fun _ => rfl) (fun U55 H locs hU55 hP hD hS => ?_)
        have hP : va_P (dC, dI) vwCl (mW cI o q0 q1 U55.1 x U55.2 h) H := hP
        have hD : va_D A (mW cI o q0 q1 U55.1 x U55.2 h) := hD
        have hF := bd_at hF hU55
        have hR2 : RW U55.1 0 := by rw [hU55]; exact RW_save hm1 em2 hR
        obtain ⟨-, rG20, rT20, rF20, rS20, -, -⟩ := id hR2
        have hg2 : U55.1 0 = nI (U55.1 0).toNatClampNeg := rG20.e (by decide)
        have rg2 : (U55.1 0).toNatClampNeg ≤ 16 := rG20.c (by decide)
        have ht2 : U55.1 1 = nI (U55.1 1).toNatClampNeg := rT20.e (by decide)
        have rt2 : (U55.1 1).toNatClampNeg ≤ 4 := rT20.c (by decide)
        refine lv_aload_n hx hb dX7_wish_58 rfl (lv_at hl 1 rfl) ?_
        refine lv_iconst (v := 0) hx hb dX7_wish_59 (by decide) ?_
        refine lv_iload_n hx hb dX7_wish_60 rfl (lv_at hl 2 rfl) ?_
        refine lv_tope (y := (nI v.toNatClampNeg)) hvn ?_
        refine lv_iconst (v := 2) hx hb dX7_wish_61 (by decide) ?_
        refine k_calli (W.runV (As := [.int 0, .int (nI v.toNatClampNeg), .int 2]) (rest := []) ⟨hx, hb, hml, hown, hts0⟩ (mX7_of l dC dI cI o q0 q1 U55.1 x U55.2 h 0 v.toNatClampNeg 2 (by first | omega | assumption)) (cwV 3 hts0 (gi_V u_932 u_934 us_20 u_7 u_935) rfl rfl rfl (by decide +kernel) ⟨Nat.le_of_ble_eq_true rfl, Nat.le_of_ble_eq_true rfl⟩) (pcR_V (ci := 5) (q0 := 0) hP hK hn rfl rfl) rfl rfl hl.1 rfl (lv_room (Nat.le_of_ble_eq_true rfl)) dX7_wish_62 ⟨Nat.zero_le _, Nat.zero_le _⟩) ?_
        refine lv_istore (lv' := [(4, .int (fX7_of U55.1 0 v.toNatClampNeg 2)), (3, .int (nI v5_0)), (0, .ref o), (1, .int v), (2, .int a)]) hx hb dX7_wish_65 hl (by decide) rfl (fun ls hl => ?_)
        refine lv_aload_n hx hb dX7_wish_67 rfl (lv_at hl 2 rfl) ?_
        refine lv_iconst (v := 0) hx hb dX7_wish_68 (by decide) ?_
        refine lv_iload_n hx hb dX7_wish_69 rfl (lv_at hl 3 rfl) ?_
        refine lv_tope (y := (nI v.toNatClampNeg)) hvn ?_
        refine lv_iconst (v := 2) hx hb dX7_wish_70 (by decide) ?_
        refine lv_iload_n hx hb dX7_wish_71 rfl (lv_at hl 4 rfl) ?_
        refine k_mutv (Wd := (fun (v9 : (Nat → Int32)) => mW cI o q0 q1 v9 x U55.2 h)) (va_runV (As := [.int 0, .int (nI v.toNatClampNeg), .int 2, .int a]) (rest := []) ⟨hx, hb, hml, hown, hts0⟩ (mX7_lay l dC dI cI o q0 q1 U55.1 x U55.2 h 0 v.toNatClampNeg 2 a (by first | omega | assumption)) (cwV 4 hts0 (gi_V u_920 u_922 us_18 u_7 u_923) rfl rfl rfl (by decide +kernel) ⟨Nat.le_of_ble_eq_true rfl, Nat.le_of_ble_eq_true rfl⟩) (pcM_V (ci := 5) (q0 := 0) hP hK hn hD rfl rfl) rfl rfl hl.1 rfl (lv_room (Nat.le_of_ble_eq_true rfl)) dX7_wish_72 ⟨Nat.zero_le _, Nat.zero_le _⟩) hP hD hS [0, 1, 2] rfl rfl (fun _ => rfl) (fun U72 H locs hU72 hP hD hS => ?_)
        have hP : va_P (dC, dI) vwCl (mW cI o q0 q1 U72 x U55.2 h) H := hP
        have hD : va_D A (mW cI o q0 q1 U72 x U55.2 h) := hD
        have hF := bd_at hF hU72
        refine lv_iload hx hb dX7_wish_75 (lv_at hl 0 rfl) ?_
        rw [hQ]
        exact W.iret (v := (fX7_of U55.1 0 v.toNatClampNeg 2)) hx hb hr (fun t ht hW => ⟨⟨(fX7_of U55.1 0 v.toNatClampNeg 2), (U72, U55.2), rfl, hF.symm, toH ht hP⟩, hS.F ht⟩) hS.2.2 dX7_wish_77
      have hF := hF.trans (if_pos c_49)
      refine lv_iconst (v := 0) hx hb dX7_wish_52 (by decide) ?_
      rw [hQ]
      exact W.iret (v := 0) hx hb hr (fun t ht hW => ⟨⟨0, (f, U46), rfl, hF.symm, toH ht hP⟩, hS.F ht⟩) hS.2.2 dX7_wish_53
    have hF : ((if (nI v5_0) = 0 then 1 else (if a = v then 2 else 0)) : Nat) = (if (nI v5_0) = 0 then 1 else (if a = v then 2 else 0)) := rfl
    refine lv_if_ne (tgt := 36) hx hb dX7_wish_29 (by decide) (fun c_29 => ?_) (fun c_29 => ?_)
    · have hF := hF.trans (if_neg c_29)
      refine lv_iload_n hx hb dX7_wish_36 rfl (lv_at hl 3 rfl) ?_
      refine lv_iload_n hx hb dX7_wish_37 rfl (lv_at hl 2 rfl) ?_
      refine lv_icmp_ne (tgt := 45) hx hb dX7_wish_38 (by decide) (fun c_38 => ?_) (fun c_38 => ?_)
      · have hF := hF.trans (if_neg c_38)
        refine lv_iconst (v := 0) hx hb dX7_wish_45 (by decide) ?_
        exact K29 _ hF.symm _ _ hP hD hS  ls (lv_sub hl [0, 1, 2, 3] rfl)
      have hF := hF.trans (if_pos c_38)
      refine lv_iconst (v := 2) hx hb dX7_wish_41 (by decide) ?_
      refine lv_goto (tgt := 46) hx hb dX7_wish_42 (by decide) ?_
      exact K29 _ hF.symm _ _ hP hD hS  ls (lv_sub hl [0, 1, 2, 3] rfl)
    have hF := hF.trans (if_pos c_29)
    refine lv_iconst (v := 1) hx hb dX7_wish_32 (by decide) ?_
    refine lv_goto (tgt := 46) hx hb dX7_wish_33 (by decide) ?_
    exact K29 _ hF.symm _ _ hP hD hS  ls (lv_sub hl [0, 1, 2, 3] rfl)
  have hF : ((if (fX7_isGuest f v) = 0 then 0 else (if a = (-1) then 1 else (if (fX7_isGuest f a) = 0 then 0 else 1))) : Nat) = (if (fX7_isGuest f v) = 0 then 0 else (if a = (-1) then 1 else (if (fX7_isGuest f a) = 0 then 0 else 1))) := rfl
  refine lv_if_eq (tgt := 25) hx hb dX7_wish_5 (by decide) (fun c_5 => ?_) (fun c_5 => ?_)
  · have hF := hF.trans (if_pos c_5)
    refine lv_iconst (v := 0) hx hb dX7_wish_25 (by decide) ?_
    exact K5 _ hF.symm _ _ hP hD hS  ls (lv_sub hl [0, 1, 2] rfl)
  have hF := hF.trans (if_neg c_5)
  refine lv_iload_n hx hb dX7_wish_8 rfl (lv_at hl 2 rfl) ?_
  refine lv_iconst (v := (-1)) hx hb dX7_wish_9 (by decide) ?_
  refine lv_icmp_eq (tgt := 21) hx hb dX7_wish_10 (by decide) (fun c_10 => ?_) (fun c_10 => ?_)
  · have hF := hF.trans (if_pos c_10)
    refine lv_iconst (v := 1) hx hb dX7_wish_21 (by decide) ?_
    refine lv_goto (tgt := 26) hx hb dX7_wish_22 (by decide) ?_
    exact K5 _ hF.symm _ _ hP hD hS  ls (lv_sub hl [0, 1, 2] rfl)
  have hF := hF.trans (if_neg c_10)
  refine lv_aload_n hx hb dX7_wish_13 rfl (lv_at hl 0 rfl) ?_
  refine lv_iload_n hx hb dX7_wish_14 rfl (lv_at hl 2 rfl) ?_
  refine k_callb (W.runV (As := [.int a]) (rest := []) ⟨hx, hb, hml, hown, hts0⟩ (mX7_isGuest l dC dI cI o q0 q1 f x M h a) (cwV 1 hts0 (gi_V u_928 u_930 us_19 u_7 u_931) rfl rfl rfl (by decide +kernel) ⟨Nat.le_of_ble_eq_true rfl, Nat.le_of_ble_eq_true rfl⟩) (pcR_V (ci := 5) (q0 := 0) hP hK hn rfl rfl) rfl rfl hl.1 rfl (lv_room (Nat.le_of_ble_eq_true rfl)) dX7_wish_15 ⟨Nat.zero_le _, Nat.zero_le _⟩) (fun br15 => ?_)
  refine lv_if_eq (tgt := 25) hx hb dX7_wish_18 (by decide) (fun c_18 => ?_) (fun c_18 => ?_)
  · have hF := hF.trans (if_pos c_18)
    refine lv_iconst (v := 0) hx hb dX7_wish_25 (by decide) ?_
    exact K5 _ hF.symm _ _ hP hD hS  ls (lv_sub hl [0, 1, 2] rfl)
  have hF := hF.trans (if_neg c_18)
  refine lv_iconst (v := 1) hx hb dX7_wish_21 (by decide) ?_
  refine lv_goto (tgt := 26) hx hb dX7_wish_22 (by decide) ?_
  exact K5 _ hF.symm _ _ hP hD hS  ls (lv_sub hl [0, 1, 2] rfl)

def fX7_table (f : Nat → Int32) (M : Nat → Int32) (n5 : Int32) : Int32 × ((Nat → Int32) × (Nat → Int32)) :=
  (bd ((if (fX7_in n5 3 8) = 0 then 1 else (if (f 1) = 4 then 2 else 0)) : Nat) (fun v8_0 => (bd2 (fX7_holds M (nI v8_0)) (fun r30 U30 => (if r30 = 0 then (0, (f, U30)) else (bd (fX7_save f U30) (fun U39 => ((((upd (upd U39.1 (18 + (U39.1 1).toNatClampNeg) n5) 1 (((upd U39.1 (18 + (U39.1 1).toNatClampNeg) n5) 1) + 1)) 1) - 1), ((upd (upd U39.1 (18 + (U39.1 1).toNatClampNeg) n5) 1 (((upd U39.1 (18 + (U39.1 1).toNatClampNeg) n5) 1) + 1)), U39.2)))))))))
abbrev rmX7_table : Room := { frames := 2, cells := 0, slots := 0, locals := 44 }
set_option maxHeartbeats 4000000 in
set_option maxRecDepth 100000 in
theorem mX7_table (l : Launch) (dC : Nat → ClassId) (dI : Nat → Nat → Nat) (cI : ClassId) (o q0 q1 : Nat) (f x M : Nat → Int32) (h : Int64) (n5 : Int32) (hR : RW f 0) (m1 : Nat) (hm1 : m1 ≤ 6) (em1 : M 1 = nI m1) : Met l yX7_table (ws_ yX7_table cX7_table 2 (some .int)) rmX7_table (pcM (dC, dI) [(cI, .int)] (mW cI o q0 q1 f x M h) [.ref o, .int n5]) (va_Qi (fun (r9 : Int32) (u9 : (Nat → Int32) × (Nat → Int32)) => (r9, u9) = fX7_table f M n5) (fun u9 t => va_P (dC, dI) vwCl ((fun (v9 : (Nat → Int32) × (Nat → Int32)) => mW cI o q0 q1 v9.1 x v9.2 h) u9) t.heap) (adr (mW cI o q0 q1 f x M h))) 0 0 (adr (mW cI o q0 q1 f x M h)) := by
  refine Met.ofW (cc := cX7_table) (maxL := 2) (ret := (some .int)) (by decide) rfl ?_
  intro p e s m args below meth c s₁ B hml hv
  obtain ⟨ha, hP, hK, hn, hD0⟩ := hv
  have hx := B.exec
  have hb := B.bytes
  have hr := B.returns
  have hts0 := atoms_spec (ws := (ws_ yX7_table cX7_table 2 (some .int))) B.pre
  have hts : ∀ w ∈ lw_all, w.before args s = true := fun w h => hts0 w (List.mem_cons_of_mem _ h)
  have hown : s.vm.findClass RX7 = some m.cls := findClass_of_methodNamed B.named
  have hlocks := B.notSynchronized
  have htX7 : ∀ w ∈ wsX70, w.before args s = true := fun w h => hts w (wX7 w h)
  have hD := adr_self hD0
  obtain ⟨A, hA⟩ : ∃ A, A = adr (mW cI o q0 q1 f x M h) := ⟨_, rfl⟩
  rw [← hA] at hD
  have hS : va_S A s.heap s.heap [] := va_S.rf
  obtain ⟨Q, hQ⟩ : ∃ Q, Q = MQ below (va_Qi (fun (r9 : Int32) (u9 : (Nat → Int32) × (Nat → Int32)) => (r9, u9) = fX7_table f M n5) (fun u9 t => va_P (dC, dI) vwCl ((fun (v9 : (Nat → Int32) × (Nat → Int32)) => mW cI o q0 q1 v9.1 x v9.2 h) u9) t.heap) (adr (mW cI o q0 q1 f x M h))) args s 0 0 (adr (mW cI o q0 q1 f x M h)) := ⟨_, rfl⟩
  rw [← hQ]
  rw [← hA] at hQ
  have hl := lv_entry ([.ref o, .int n5]) (n := 2) (Nat.le_of_ble_eq_true rfl)
  rw [ha, lg_entry_eq, ← ha]
  generalize (lg_sl ([.ref o, .int n5]) ++ List.replicate (2 - (lg_sl ([.ref o, .int n5])).length) Slot.unset).toArray = ls at hl ⊢
  have hl : lv_has ls 2 [(0, .ref o), (1, .int n5)] := hl
  show W p l e rmX7_table s m args below meth c s.heap [] 0 0 Q (F0 m 0 ls [])
  have hF : fX7_table f M n5 = fX7_table f M n5 := rfl
  refine lv_aload_n hx hb dX7_table_0 rfl (lv_at hl 0 rfl) ?_
  refine lv_iload_n hx hb dX7_table_1 rfl (lv_at hl 1 rfl) ?_
  refine lv_iconst (v := 3) hx hb dX7_table_2 (by decide) ?_
  refine lv_bipush (v := 8) hx hb dX7_table_3 (by decide) ?_
  refine k_callb (W.runS (As := [.int n5, .int 3, .int 8]) (rest := [.ref o]) ⟨hx, hb, hml, hown, hts0⟩ (mX7_in l dC dI  n5 3 8) (va_cwS 3 hts0 (gi_S u_905 u_906 u_7 u_907) rfl rfl rfl (by decide +kernel) ⟨Nat.le_of_ble_eq_true rfl, Nat.le_of_ble_eq_true rfl⟩) (pcR_S (hP.sub (ws' := []) [] rfl) (hK.sub (tys' := []) [] rfl) hn) rfl rfl hl.1 rfl (lv_room (Nat.le_of_ble_eq_true rfl)) dX7_table_5 ⟨Nat.zero_le _, Nat.zero_le _⟩) (fun br5 => ?_)
  have K8 : ∀ (v8_0 : Nat), v8_0 = (if (fX7_in n5 3 8) = 0 then 1 else (if (f 1) = 4 then 2 else 0)) → ∀ (H : Heap) (locs : List Loc), va_P (dC, dI) vwCl (mW cI o q0 q1 f x M h) H → va_D A (mW cI o q0 q1 f x M h) → va_S A s.heap H locs → ∀ (ls : Array Slot), lv_has ls 2 [(0, .ref o), (1, .int n5)] → W p l e rmX7_table s m args below meth c H locs 0 0 Q (F0 m 30 ls [.int (nI v8_0), .ref o]) := by
    intro v8_0 hz8 H locs hP hD hS ls hl
    have hz := hz8
    have hF := bd_at hF hz
    refine k_muti (Wd := (fun (v9 : (Nat → Int32)) => mW cI o q0 q1 f x v9 h)) (va_runV (As := [.int (nI v8_0)]) (rest := []) ⟨hx, hb, hml, hown, hts0⟩ (mX7_holds l dC dI cI o q0 q1 f x M h (nI v8_0)) (cwV 1 hts0 (gi_V u_908 u_910 us_15 u_7 u_911) rfl rfl rfl (by decide +kernel) ⟨Nat.le_of_ble_eq_true rfl, Nat.le_of_ble_eq_true rfl⟩) (pcM_V (ci := 5) (q0 := 0) hP hK hn hD rfl rfl) rfl rfl hl.1 rfl (lv_room (Nat.le_of_ble_eq_true rfl)) dX7_table_30 ⟨Nat.zero_le _, Nat.zero_le _⟩) hP hD hS [0, 1, 2] rfl rfl (fun _ => rfl) (fun r30 U30 H locs hU30 hP hD hS => ?_)
    obtain ⟨hU30, br30⟩ := hU30
    have hP : va_P (dC, dI) vwCl (mW cI o q0 q1 f x U30 h) H := hP
    have hD : va_D A (mW cI o q0 q1 f x U30 h) := hD
    have hF := bd2_at hF hU30
    refine lv_if_ne (tgt := 38) hx hb dX7_table_33 (by decide) (fun c_33 => ?_) (fun c_33 => ?_)
    · have hF := hF.trans (if_neg c_33)
      have em2 : U30 1 = nI m1 := (holds_M hU30 (by decide)).trans em1
      refine lv_aload_n hx hb dX7_table_38 rfl (lv_at hl 0 rfl) ?_
      refine k_mutv (Wd := (fun (v9 : (Nat → Int32) × (Nat → Int32)) => mW cI o q0 q1 v9.1 x v9.2 h)) (va_runV (As := []) (rest := []) ⟨hx, hb, hml, hown, hts0⟩ (mX7_save l dC dI cI o q0 q1 f x U30 h  m1 hm1 em2) (cwV 0 hts0 (gi_V u_912 u_914 us_16 u_7 u_915) rfl rfl rfl (by decide +kernel) ⟨Nat.le_of_ble_eq_true rfl, Nat.le_of_ble_eq_true rfl⟩) (pcM_V (ci := 5) (q0 := 0) hP hK hn hD rfl rfl) rfl rfl hl.1 rfl (lv_room (Nat.le_of_ble_eq_true rfl)) dX7_table_39 ⟨Nat.zero_le _, Nat.zero_le _⟩) hP hD hS [0, 1, 2] rfl rfl (fun _ => rfl) (fun U39 H locs hU39 hP hD hS => ?_)
      have hP : va_P (dC, dI) vwCl (mW cI o q0 q1 U39.1 x U39.2 h) H := hP
      have hD : va_D A (mW cI o q0 q1 U39.1 x U39.2 h) := hD
      have hF := bd_at hF hU39
      have hR2 : RW U39.1 0 := by rw [hU39]; exact RW_save hm1 em2 hR
      obtain ⟨-, rG20, rT20, rF20, rS20, -, -⟩ := id hR2
      have hg2 : U39.1 0 = nI (U39.1 0).toNatClampNeg := rG20.e (by decide)
      have rg2 : (U39.1 0).toNatClampNeg ≤ 16 := rG20.c (by decide)
      have ht2 : U39.1 1 = nI (U39.1 1).toNatClampNeg := rT20.e (by decide)
      have rt2 : (U39.1 1).toNatClampNeg ≤ 4 := rT20.c (by decide)
      refine lv_aload_n hx hb dX7_table_42 rfl (lv_at hl 0 rfl) ?_
      refine va_get (D := (dC, dI)) (ci := 5) (v := .ref q0) (C := RX7) (T := TX7) (N := 12) hx hb htX7 (fun _ h => h) hown hK hP 0 rfl rfl 1 (by decide) (hts _ u_858) (fun _ h9 => h9) rfl dX7_table_43 ?_
      refine lv_bipush (v := 18) hx hb dX7_table_46 (by decide) ?_
      refine lv_aload_n hx hb dX7_table_48 rfl (lv_at hl 0 rfl) ?_
      refine va_get (D := (dC, dI)) (ci := 5) (v := .ref q0) (C := RX7) (T := TX7) (N := 12) hx hb htX7 (fun _ h => h) hown hK hP 0 rfl rfl 1 (by decide) (hts _ u_858) (fun _ h9 => h9) rfl dX7_table_49 ?_
      refine lv_iconst (v := 1) hx hb dX7_table_52 (by decide) ?_
      refine va_iald hx hb hK hP 1 0 rfl rfl (vp_in_nI (n := 1) (by omega) (by decide)) dX7_table_53 ?_
      refine lv_tope (y := (U39.1 1)) (at_nI (k := 1) (by omega)) ?_
      refine lv_tope (y := (nI (U39.1 1).toNatClampNeg)) ht2 ?_
      refine lv_iadd hx hb dX7_table_54 ?_
      refine lv_tope (y := (nI (18 + (U39.1 1).toNatClampNeg))) (nI_add 18 ((U39.1 1).toNatClampNeg)) ?_
      refine lv_iload_n hx hb dX7_table_55 rfl (lv_at hl 1 rfl) ?_
      refine va_iast hx hb hK hP hD hS 1 0 rfl rfl (vp_in_nI (n := (18 + (U39.1 1).toNatClampNeg)) (by omega) (by decide)) dX7_table_56 (fun H locs hP hD hS => ?_)
      rw [show ((nI (18 + (U39.1 1).toNatClampNeg)) : Int32).toNatClampNeg = (18 + (U39.1 1).toNatClampNeg) from nI_clamp (n := (18 + (U39.1 1).toNatClampNeg)) (by omega)] at hP hD
      have hP : va_P (dC, dI) vwCl (mW cI o q0 q1 (upd U39.1 (18 + (U39.1 1).toNatClampNeg) n5) x U39.2 h) H := hP
      have hD : va_D A (mW cI o q0 q1 (upd U39.1 (18 + (U39.1 1).toNatClampNeg) n5) x U39.2 h) := hD
      refine lv_aload_n hx hb dX7_table_57 rfl (lv_at hl 0 rfl) ?_
      refine va_get (D := (dC, dI)) (ci := 5) (v := .ref q0) (C := RX7) (T := TX7) (N := 12) hx hb htX7 (fun _ h => h) hown hK hP 0 rfl rfl 1 (by decide) (hts _ u_858) (fun _ h9 => h9) rfl dX7_table_58 ?_
      refine lv_iconst (v := 1) hx hb dX7_table_61 (by decide) ?_
      refine lv_dup2_11 hx hb dX7_table_62 rfl rfl ?_
      refine va_iald hx hb hK hP 1 0 rfl rfl (vp_in_nI (n := 1) (by omega) (by decide)) dX7_table_63 ?_
      refine lv_tope (y := ((upd U39.1 (18 + (U39.1 1).toNatClampNeg) n5) 1)) (at_nI (k := 1) (by omega)) ?_
      refine lv_iconst (v := 1) hx hb dX7_table_64 (by decide) ?_
      refine lv_iadd hx hb dX7_table_65 ?_
      refine va_iast hx hb hK hP hD hS 1 0 rfl rfl (vp_in_nI (n := 1) (by omega) (by decide)) dX7_table_66 (fun H locs hP hD hS => ?_)
      rw [show (1 : Int32).toNatClampNeg = 1 from nI_clamp (n := 1) (by omega)] at hP hD
      have hP : va_P (dC, dI) vwCl (mW cI o q0 q1 (upd (upd U39.1 (18 + (U39.1 1).toNatClampNeg) n5) 1 (((upd U39.1 (18 + (U39.1 1).toNatClampNeg) n5) 1) + 1)) x U39.2 h) H := hP
      have hD : va_D A (mW cI o q0 q1 (upd (upd U39.1 (18 + (U39.1 1).toNatClampNeg) n5) 1 (((upd U39.1 (18 + (U39.1 1).toNatClampNeg) n5) 1) + 1)) x U39.2 h) := hD
      refine lv_aload_n hx hb dX7_table_67 rfl (lv_at hl 0 rfl) ?_
      refine va_get (D := (dC, dI)) (ci := 5) (v := .ref q0) (C := RX7) (T := TX7) (N := 12) hx hb htX7 (fun _ h => h) hown hK hP 0 rfl rfl 1 (by decide) (hts _ u_858) (fun _ h9 => h9) rfl dX7_table_68 ?_
      refine lv_iconst (v := 1) hx hb dX7_table_71 (by decide) ?_
      refine va_iald hx hb hK hP 1 0 rfl rfl (vp_in_nI (n := 1) (by omega) (by decide)) dX7_table_72 ?_
      refine lv_tope (y := ((upd (upd U39.1 (18 + (U39.1 1).toNatClampNeg) n5) 1 (((upd U39.1 (18 + (U39.1 1).toNatClampNeg) n5) 1) + 1)) 1)) (at_nI (k := 1) (by omega)) ?_
      refine lv_iconst (v := 1) hx hb dX7_table_73 (by decide) ?_
      refine lv_isub hx hb dX7_table_74 ?_
      rw [hQ]
      exact W.iret (v := (((upd (upd U39.1 (18 + (U39.1 1).toNatClampNeg) n5) 1 (((upd U39.1 (18 + (U39.1 1).toNatClampNeg) n5) 1) + 1)) 1) - 1)) hx hb hr (fun t ht hW => ⟨⟨(((upd (upd U39.1 (18 + (U39.1 1).toNatClampNeg) n5) 1 (((upd U39.1 (18 + (U39.1 1).toNatClampNeg) n5) 1) + 1)) 1) - 1), ((upd (upd U39.1 (18 + (U39.1 1).toNatClampNeg) n5) 1 (((upd U39.1 (18 + (U39.1 1).toNatClampNeg) n5) 1) + 1)), U39.2), rfl, hF.symm, toH ht hP⟩, hS.F ht⟩) hS.2.2 dX7_table_75
    have hF := hF.trans (if_pos c_33)
    refine lv_iconst (v := 0) hx hb dX7_table_36 (by decide) ?_
    rw [hQ]
    exact W.iret (v := 0) hx hb hr (fun t ht hW => ⟨⟨0, (f, U30), rfl, hF.symm, toH ht hP⟩, hS.F ht⟩) hS.2.2 dX7_table_37
  have hF : ((if (fX7_in n5 3 8) = 0 then 1 else (if (f 1) = 4 then 2 else 0)) : Nat) = (if (fX7_in n5 3 8) = 0 then 1 else (if (f 1) = 4 then 2 else 0)) := rfl
  refine lv_if_ne (tgt := 15) hx hb dX7_table_8 (by decide) (fun c_8 => ?_) (fun c_8 => ?_)
  · have hF := hF.trans (if_neg c_8)
    refine lv_aload_n hx hb dX7_table_15 rfl (lv_at hl 0 rfl) ?_
    refine va_get (D := (dC, dI)) (ci := 5) (v := .ref q0) (C := RX7) (T := TX7) (N := 12) hx hb htX7 (fun _ h => h) hown hK hP 0 rfl rfl 1 (by decide) (hts _ u_858) (fun _ h9 => h9) rfl dX7_table_16 ?_
    refine lv_iconst (v := 1) hx hb dX7_table_19 (by decide) ?_
    refine va_iald hx hb hK hP 1 0 rfl rfl (vp_in_nI (n := 1) (by omega) (by decide)) dX7_table_20 ?_
    refine lv_tope (y := (f 1)) (at_nI (k := 1) (by omega)) ?_
    refine lv_iconst (v := 4) hx hb dX7_table_21 (by decide) ?_
    refine lv_icmp_ne (tgt := 29) hx hb dX7_table_22 (by decide) (fun c_22 => ?_) (fun c_22 => ?_)
    · have hF := hF.trans (if_neg c_22)
      refine lv_iconst (v := 0) hx hb dX7_table_29 (by decide) ?_
      exact K8 _ hF.symm _ _ hP hD hS  ls (lv_sub hl [0, 1] rfl)
    have hF := hF.trans (if_pos c_22)
    refine lv_iconst (v := 2) hx hb dX7_table_25 (by decide) ?_
    refine lv_goto (tgt := 30) hx hb dX7_table_26 (by decide) ?_
    exact K8 _ hF.symm _ _ hP hD hS  ls (lv_sub hl [0, 1] rfl)
  have hF := hF.trans (if_pos c_8)
  refine lv_iconst (v := 1) hx hb dX7_table_11 (by decide) ?_
  refine lv_goto (tgt := 30) hx hb dX7_table_12 (by decide) ?_
  exact K8 _ hF.symm _ _ hP hD hS  ls (lv_sub hl [0, 1] rfl)

def fX7_set (f : Nat → Int32) (M : Nat → Int32) (v : Int32) (a : Int32) : Int32 × ((Nat → Int32) × (Nat → Int32)) :=
  (bd ((if (fX7_in v 0 3) = 0 then 1 else (bd ((if v = 0 then 1 else 0) : Nat) (fun v16_0 => (if (fX7_in a (nI v16_0) (fX7_mostOf v)) = 0 then 2 else 0)))) : Nat) (fun v7_0 => (bd2 (fX7_holds M (nI v7_0)) (fun r39 U39 => (if r39 = 0 then (0, (f, U39)) else (bd (fX7_save f U39) (fun U48 => ((U48.1 (6 + v.toNatClampNeg)), ((upd U48.1 (6 + v.toNatClampNeg) a), U48.2)))))))))
abbrev rmX7_set : Room := { frames := 2, cells := 0, slots := 0, locals := 44 }
set_option maxHeartbeats 4000000 in
set_option maxRecDepth 100000 in
theorem mX7_set (l : Launch) (dC : Nat → ClassId) (dI : Nat → Nat → Nat) (cI : ClassId) (o q0 q1 : Nat) (f x M : Nat → Int32) (h : Int64) (v : Int32) (a : Int32) (hR : RW f 0) (m1 : Nat) (hm1 : m1 ≤ 6) (em1 : M 1 = nI m1) : Met l yX7_set (ws_ yX7_set cX7_set 4 (some .int)) rmX7_set (pcM (dC, dI) [(cI, .int)] (mW cI o q0 q1 f x M h) [.ref o, .int v, .int a]) (va_Qi (fun (r9 : Int32) (u9 : (Nat → Int32) × (Nat → Int32)) => (r9, u9) = fX7_set f M v a) (fun u9 t => va_P (dC, dI) vwCl ((fun (v9 : (Nat → Int32) × (Nat → Int32)) => mW cI o q0 q1 v9.1 x v9.2 h) u9) t.heap) (adr (mW cI o q0 q1 f x M h))) 0 0 (adr (mW cI o q0 q1 f x M h)) := by
  refine Met.ofW (cc := cX7_set) (maxL := 4) (ret := (some .int)) (by decide) rfl ?_
  intro p e s m args below meth c s₁ B hml hv
  obtain ⟨ha, hP, hK, hn, hD0⟩ := hv
  have hx := B.exec
  have hb := B.bytes
  have hr := B.returns
  have hts0 := atoms_spec (ws := (ws_ yX7_set cX7_set 4 (some .int))) B.pre
  have hts : ∀ w ∈ lw_all, w.before args s = true := fun w h => hts0 w (List.mem_cons_of_mem _ h)
  have hown : s.vm.findClass RX7 = some m.cls := findClass_of_methodNamed B.named
  have hlocks := B.notSynchronized
  have htX7 : ∀ w ∈ wsX70, w.before args s = true := fun w h => hts w (wX7 w h)
  have hD := adr_self hD0
  obtain ⟨A, hA⟩ : ∃ A, A = adr (mW cI o q0 q1 f x M h) := ⟨_, rfl⟩
  rw [← hA] at hD
  have hS : va_S A s.heap s.heap [] := va_S.rf
  obtain ⟨Q, hQ⟩ : ∃ Q, Q = MQ below (va_Qi (fun (r9 : Int32) (u9 : (Nat → Int32) × (Nat → Int32)) => (r9, u9) = fX7_set f M v a) (fun u9 t => va_P (dC, dI) vwCl ((fun (v9 : (Nat → Int32) × (Nat → Int32)) => mW cI o q0 q1 v9.1 x v9.2 h) u9) t.heap) (adr (mW cI o q0 q1 f x M h))) args s 0 0 (adr (mW cI o q0 q1 f x M h)) := ⟨_, rfl⟩
  rw [← hQ]
  rw [← hA] at hQ
  have hl := lv_entry ([.ref o, .int v, .int a]) (n := 4) (Nat.le_of_ble_eq_true rfl)
  rw [ha, lg_entry_eq, ← ha]
  generalize (lg_sl ([.ref o, .int v, .int a]) ++ List.replicate (4 - (lg_sl ([.ref o, .int v, .int a])).length) Slot.unset).toArray = ls at hl ⊢
  have hl : lv_has ls 4 [(0, .ref o), (1, .int v), (2, .int a)] := hl
  show W p l e rmX7_set s m args below meth c s.heap [] 0 0 Q (F0 m 0 ls [])
  have hF : fX7_set f M v a = fX7_set f M v a := rfl
  refine lv_aload_n hx hb dX7_set_0 rfl (lv_at hl 0 rfl) ?_
  refine lv_iload_n hx hb dX7_set_1 rfl (lv_at hl 1 rfl) ?_
  refine lv_iconst (v := 0) hx hb dX7_set_2 (by decide) ?_
  refine lv_iconst (v := 3) hx hb dX7_set_3 (by decide) ?_
  refine k_callb (W.runS (As := [.int v, .int 0, .int 3]) (rest := [.ref o]) ⟨hx, hb, hml, hown, hts0⟩ (mX7_in l dC dI  v 0 3) (va_cwS 3 hts0 (gi_S u_905 u_906 u_7 u_907) rfl rfl rfl (by decide +kernel) ⟨Nat.le_of_ble_eq_true rfl, Nat.le_of_ble_eq_true rfl⟩) (pcR_S (hP.sub (ws' := []) [] rfl) (hK.sub (tys' := []) [] rfl) hn) rfl rfl hl.1 rfl (lv_room (Nat.le_of_ble_eq_true rfl)) dX7_set_4 ⟨Nat.zero_le _, Nat.zero_le _⟩) (fun br4 => ?_)
  have K7 : ∀ (v7_0 : Nat), v7_0 = (if (fX7_in v 0 3) = 0 then 1 else (bd ((if v = 0 then 1 else 0) : Nat) (fun v16_0 => (if (fX7_in a (nI v16_0) (fX7_mostOf v)) = 0 then 2 else 0)))) → ∀ (H : Heap) (locs : List Loc), va_P (dC, dI) vwCl (mW cI o q0 q1 f x M h) H → va_D A (mW cI o q0 q1 f x M h) → va_S A s.heap H locs → ∀ (ls : Array Slot), lv_has ls 4 [(0, .ref o), (1, .int v), (2, .int a)] → W p l e rmX7_set s m args below meth c H locs 0 0 Q (F0 m 39 ls [.int (nI v7_0), .ref o]) := by
    intro v7_0 hz7 H locs hP hD hS ls hl
    have hz := hz7
    have hF := bd_at hF hz
    refine k_muti (Wd := (fun (v9 : (Nat → Int32)) => mW cI o q0 q1 f x v9 h)) (va_runV (As := [.int (nI v7_0)]) (rest := []) ⟨hx, hb, hml, hown, hts0⟩ (mX7_holds l dC dI cI o q0 q1 f x M h (nI v7_0)) (cwV 1 hts0 (gi_V u_908 u_910 us_15 u_7 u_911) rfl rfl rfl (by decide +kernel) ⟨Nat.le_of_ble_eq_true rfl, Nat.le_of_ble_eq_true rfl⟩) (pcM_V (ci := 5) (q0 := 0) hP hK hn hD rfl rfl) rfl rfl hl.1 rfl (lv_room (Nat.le_of_ble_eq_true rfl)) dX7_set_39 ⟨Nat.zero_le _, Nat.zero_le _⟩) hP hD hS [0, 1, 2] rfl rfl (fun _ => rfl) (fun r39 U39 H locs hU39 hP hD hS => ?_)
    obtain ⟨hU39, br39⟩ := hU39
    have hP : va_P (dC, dI) vwCl (mW cI o q0 q1 f x U39 h) H := hP
    have hD : va_D A (mW cI o q0 q1 f x U39 h) := hD
    have hF := bd2_at hF hU39
    refine lv_if_ne (tgt := 47) hx hb dX7_set_42 (by decide) (fun c_42 => ?_) (fun c_42 => ?_)
    · have hF := hF.trans (if_neg c_42)
      have hv0 := holds_ok hU39 c_42
      rw [hz7] at hv0
      have k1 : ¬ (fX7_in v 0 3) = 0 := fun z => by rw [if_pos z] at hv0; exact absurd hv0 (by decide)
      obtain ⟨hvn, hvl⟩ := in_le (v := v) (hi := 3) (by decide) k1
      have em2 : U39 1 = nI m1 := (holds_M hU39 (by decide)).trans em1
      refine lv_aload_n hx hb dX7_set_47 rfl (lv_at hl 0 rfl) ?_
      refine k_mutv (Wd := (fun (v9 : (Nat → Int32) × (Nat → Int32)) => mW cI o q0 q1 v9.1 x v9.2 h)) (va_runV (As := []) (rest := []) ⟨hx, hb, hml, hown, hts0⟩ (mX7_save l dC dI cI o q0 q1 f x U39 h  m1 hm1 em2) (cwV 0 hts0 (gi_V u_912 u_914 us_16 u_7 u_915) rfl rfl rfl (by decide +kernel) ⟨Nat.le_of_ble_eq_true rfl, Nat.le_of_ble_eq_true rfl⟩) (pcM_V (ci := 5) (q0 := 0) hP hK hn hD rfl rfl) rfl rfl hl.1 rfl (lv_room (Nat.le_of_ble_eq_true rfl)) dX7_set_48 ⟨Nat.zero_le _, Nat.zero_le _⟩) hP hD hS [0, 1, 2] rfl rfl (fun _ => rfl) (fun U48 H locs hU48 hP hD hS => ?_)
      have hP : va_P (dC, dI) vwCl (mW cI o q0 q1 U48.1 x U48.2 h) H := hP
      have hD : va_D A (mW cI o q0 q1 U48.1 x U48.2 h) := hD
      have hF := bd_at hF hU48
      have hR2 : RW U48.1 0 := by rw [hU48]; exact RW_save hm1 em2 hR
      obtain ⟨-, rG20, rT20, rF20, rS20, -, -⟩ := id hR2
      have hg2 : U48.1 0 = nI (U48.1 0).toNatClampNeg := rG20.e (by decide)
      have rg2 : (U48.1 0).toNatClampNeg ≤ 16 := rG20.c (by decide)
      have ht2 : U48.1 1 = nI (U48.1 1).toNatClampNeg := rT20.e (by decide)
      have rt2 : (U48.1 1).toNatClampNeg ≤ 4 := rT20.c (by decide)
      refine lv_aload_n hx hb dX7_set_51 rfl (lv_at hl 0 rfl) ?_
      refine va_get (D := (dC, dI)) (ci := 5) (v := .ref q0) (C := RX7) (T := TX7) (N := 12) hx hb htX7 (fun _ h => h) hown hK hP 0 rfl rfl 1 (by decide) (hts _ u_858) (fun _ h9 => h9) rfl dX7_set_52 ?_
      refine lv_bipush (v := 6) hx hb dX7_set_55 (by decide) ?_
      refine lv_iload_n hx hb dX7_set_57 rfl (lv_at hl 1 rfl) ?_
      refine lv_tope (y := (nI v.toNatClampNeg)) hvn ?_
      refine lv_iadd hx hb dX7_set_58 ?_
      refine lv_tope (y := (nI (6 + v.toNatClampNeg))) (nI_add 6 v.toNatClampNeg) ?_
      refine va_iald hx hb hK hP 1 0 rfl rfl (vp_in_nI (n := (6 + v.toNatClampNeg)) (by omega) (by decide)) dX7_set_59 ?_
      refine lv_tope (y := (U48.1 (6 + v.toNatClampNeg))) (at_nI (k := (6 + v.toNatClampNeg)) (by omega)) ?_
      refine lv_istore_n (lv' := [(3, .int (U48.1 (6 + v.toNatClampNeg))), (0, .ref o), (1, .int v), (2, .int a)]) hx hb dX7_set_60 rfl hl (by decide) rfl (fun ls hl => ?_)
      refine lv_aload_n hx hb dX7_set_61 rfl (lv_at hl 1 rfl) ?_
      refine va_get (D := (dC, dI)) (ci := 5) (v := .ref q0) (C := RX7) (T := TX7) (N := 12) hx hb htX7 (fun _ h => h) hown hK hP 0 rfl rfl 1 (by decide) (hts _ u_858) (fun _ h9 => h9) rfl dX7_set_62 ?_
      refine lv_bipush (v := 6) hx hb dX7_set_65 (by decide) ?_
      refine lv_iload_n hx hb dX7_set_67 rfl (lv_at hl 2 rfl) ?_
      refine lv_tope (y := (nI v.toNatClampNeg)) hvn ?_
      refine lv_iadd hx hb dX7_set_68 ?_
      refine lv_tope (y := (nI (6 + v.toNatClampNeg))) (nI_add 6 v.toNatClampNeg) ?_
      refine lv_iload_n hx hb dX7_set_69 rfl (lv_at hl 3 rfl) ?_
      refine va_iast hx hb hK hP hD hS 1 0 rfl rfl (vp_in_nI (n := (6 + v.toNatClampNeg)) (by omega) (by decide)) dX7_set_70 (fun H locs hP hD hS => ?_)
      rw [show ((nI (6 + v.toNatClampNeg)) : Int32).toNatClampNeg = (6 + v.toNatClampNeg) from nI_clamp (n := (6 + v.toNatClampNeg)) (by omega)] at hP hD
      have hP : va_P (dC, dI) vwCl (mW cI o q0 q1 (upd U48.1 (6 + v.toNatClampNeg) a) x U48.2 h) H := hP
      have hD : va_D A (mW cI o q0 q1 (upd U48.1 (6 + v.toNatClampNeg) a) x U48.2 h) := hD
      refine lv_iload_n hx hb dX7_set_71 rfl (lv_at hl 0 rfl) ?_
      rw [hQ]
      exact W.iret (v := (U48.1 (6 + v.toNatClampNeg))) hx hb hr (fun t ht hW => ⟨⟨(U48.1 (6 + v.toNatClampNeg)), ((upd U48.1 (6 + v.toNatClampNeg) a), U48.2), rfl, hF.symm, toH ht hP⟩, hS.F ht⟩) hS.2.2 dX7_set_72
    have hF := hF.trans (if_pos c_42)
    refine lv_iconst (v := 0) hx hb dX7_set_45 (by decide) ?_
    rw [hQ]
    exact W.iret (v := 0) hx hb hr (fun t ht hW => ⟨⟨0, (f, U39), rfl, hF.symm, toH ht hP⟩, hS.F ht⟩) hS.2.2 dX7_set_46
  have hF : ((if (fX7_in v 0 3) = 0 then 1 else (bd ((if v = 0 then 1 else 0) : Nat) (fun v16_0 => (if (fX7_in a (nI v16_0) (fX7_mostOf v)) = 0 then 2 else 0)))) : Nat) = (if (fX7_in v 0 3) = 0 then 1 else (bd ((if v = 0 then 1 else 0) : Nat) (fun v16_0 => (if (fX7_in a (nI v16_0) (fX7_mostOf v)) = 0 then 2 else 0)))) := rfl
  refine lv_if_ne (tgt := 14) hx hb dX7_set_7 (by decide) (fun c_7 => ?_) (fun c_7 => ?_)
  · have hF := hF.trans (if_neg c_7)
    refine lv_iload_n hx hb dX7_set_14 rfl (lv_at hl 2 rfl) ?_
    refine lv_iload_n hx hb dX7_set_15 rfl (lv_at hl 1 rfl) ?_
    have K16 : ∀ (v16_0 : Nat), v16_0 = (if v = 0 then 1 else 0) → ∀ (H : Heap) (locs : List Loc), va_P (dC, dI) vwCl (mW cI o q0 q1 f x M h) H → va_D A (mW cI o q0 q1 f x M h) → va_S A s.heap H locs → ∀ (ls : Array Slot), lv_has ls 4 [(0, .ref o), (1, .int v), (2, .int a)] → W p l e rmX7_set s m args below meth c H locs 0 0 Q (F0 m 24 ls [.int (nI v16_0), .int a, .ref o]) := by
      intro v16_0 hz16 H locs hP hD hS ls hl
      have hz := hz16
      have bz16 : (nI v16_0 : Int32) = 0 ∨ nI v16_0 = 1 := by rw [hz]; (repeat' split); all_goals first | exact Or.inl rfl | exact Or.inr rfl
      have hF := bd_at hF hz
      refine lv_iload_n hx hb dX7_set_24 rfl (lv_at hl 1 rfl) ?_
      refine k_calli (W.runS (As := [.int v]) (rest := [.int (nI v16_0), .int a, .ref o]) ⟨hx, hb, hml, hown, hts0⟩ (mX7_mostOf l dC dI  v) (va_cwS 1 hts0 (gi_S u_974 u_975 u_7 u_976) rfl rfl rfl (by decide +kernel) ⟨Nat.le_of_ble_eq_true rfl, Nat.le_of_ble_eq_true rfl⟩) (pcR_S (hP.sub (ws' := []) [] rfl) (hK.sub (tys' := []) [] rfl) hn) rfl rfl hl.1 rfl (lv_room (Nat.le_of_ble_eq_true rfl)) dX7_set_25 ⟨Nat.zero_le _, Nat.zero_le _⟩) ?_
      refine k_callb (W.runS (As := [.int a, .int (nI v16_0), .int (fX7_mostOf v)]) (rest := [.ref o]) ⟨hx, hb, hml, hown, hts0⟩ (mX7_in l dC dI  a (nI v16_0) (fX7_mostOf v)) (va_cwS 3 hts0 (gi_S u_905 u_906 u_7 u_907) rfl rfl rfl (by decide +kernel) ⟨Nat.le_of_ble_eq_true rfl, Nat.le_of_ble_eq_true rfl⟩) (pcR_S (hP.sub (ws' := []) [] rfl) (hK.sub (tys' := []) [] rfl) hn) rfl rfl hl.1 rfl (lv_room (Nat.le_of_ble_eq_true rfl)) dX7_set_28 ⟨Nat.zero_le _, Nat.zero_le _⟩) (fun br28 => ?_)
      refine lv_if_ne (tgt := 38) hx hb dX7_set_31 (by decide) (fun c_31 => ?_) (fun c_31 => ?_)
      · have hF := hF.trans (if_neg c_31)
        refine lv_iconst (v := 0) hx hb dX7_set_38 (by decide) ?_
        exact K7 _ hF.symm _ _ hP hD hS  ls (lv_sub hl [0, 1, 2] rfl)
      have hF := hF.trans (if_pos c_31)
      refine lv_iconst (v := 2) hx hb dX7_set_34 (by decide) ?_
      refine lv_goto (tgt := 39) hx hb dX7_set_35 (by decide) ?_
      exact K7 _ hF.symm _ _ hP hD hS  ls (lv_sub hl [0, 1, 2] rfl)
    have hF : ((if v = 0 then 1 else 0) : Nat) = (if v = 0 then 1 else 0) := rfl
    refine lv_if_ne (tgt := 23) hx hb dX7_set_16 (by decide) (fun c_16 => ?_) (fun c_16 => ?_)
    · have hF := hF.trans (if_neg c_16)
      refine lv_iconst (v := 0) hx hb dX7_set_23 (by decide) ?_
      exact K16 _ hF.symm _ _ hP hD hS  ls (lv_sub hl [0, 1, 2] rfl)
    have hF := hF.trans (if_pos c_16)
    refine lv_iconst (v := 1) hx hb dX7_set_19 (by decide) ?_
    refine lv_goto (tgt := 24) hx hb dX7_set_20 (by decide) ?_
    exact K16 _ hF.symm _ _ hP hD hS  ls (lv_sub hl [0, 1, 2] rfl)
  have hF := hF.trans (if_pos c_7)
  refine lv_iconst (v := 1) hx hb dX7_set_10 (by decide) ?_
  refine lv_goto (tgt := 39) hx hb dX7_set_11 (by decide) ?_
  exact K7 _ hF.symm _ _ hP hD hS  ls (lv_sub hl [0, 1, 2] rfl)

def fX7_sit (f : Nat → Int32) (M : Nat → Int32) (v : Int32) (tb : Int32) (z : Int32) : Int32 × ((Nat → Int32) × (Nat → Int32)) :=
  (bd ((if (fX7_isGuest f v) = 0 then 0 else (if (fX7_isSeat f tb z) = 0 then 0 else 1)) : Nat) (fun v5_0 => (bd ((if (nI v5_0) = 0 then 1 else (if (fX7_reason f 0 v.toNatClampNeg tb z) ≤ 0 then 0 else 2)) : Nat) (fun v27_0 => (bd2 (fX7_holds M (nI v27_0)) (fun r50 U50 => (if r50 = 0 then (0, (f, U50)) else (bd (fX7_save f U50) (fun U59 => (bd (fX7_sitsDown U59.1 0 v.toNatClampNeg tb z) (fun U67 => ((fX7_points U67 0 (-1)), (U67, U59.2)))))))))))))
abbrev rmX7_sit : Room := { frames := 4, cells := 0, slots := 0, locals := 96 }
set_option maxHeartbeats 4000000 in
set_option maxRecDepth 100000 in
theorem mX7_sit (l : Launch) (dC : Nat → ClassId) (dI : Nat → Nat → Nat) (cI : ClassId) (o q0 q1 : Nat) (f x M : Nat → Int32) (h : Int64) (v : Int32) (tb : Int32) (z : Int32) (hR : RW f 0) (G9 : Nat) (L9 : List Nat) (hL : RO f 0 G9 L9) (m1 : Nat) (hm1 : m1 ≤ 6) (em1 : M 1 = nI m1) : Met l yX7_sit (ws_ yX7_sit cX7_sit 5 (some .int)) rmX7_sit (pcM (dC, dI) [(cI, .int)] (mW cI o q0 q1 f x M h) [.ref o, .int v, .int tb, .int z]) (va_Qi (fun (r9 : Int32) (u9 : (Nat → Int32) × (Nat → Int32)) => (r9, u9) = fX7_sit f M v tb z) (fun u9 t => va_P (dC, dI) vwCl ((fun (v9 : (Nat → Int32) × (Nat → Int32)) => mW cI o q0 q1 v9.1 x v9.2 h) u9) t.heap) (adr (mW cI o q0 q1 f x M h))) 0 0 (adr (mW cI o q0 q1 f x M h)) := by
  refine Met.ofW (cc := cX7_sit) (maxL := 5) (ret := (some .int)) (by decide) rfl ?_
  intro p e s m args below meth c s₁ B hml hv
  obtain ⟨ha, hP, hK, hn, hD0⟩ := hv
  have hx := B.exec
  have hb := B.bytes
  have hr := B.returns
  have hts0 := atoms_spec (ws := (ws_ yX7_sit cX7_sit 5 (some .int))) B.pre
  have hts : ∀ w ∈ lw_all, w.before args s = true := fun w h => hts0 w (List.mem_cons_of_mem _ h)
  have hown : s.vm.findClass RX7 = some m.cls := findClass_of_methodNamed B.named
  have hlocks := B.notSynchronized
  have hD := adr_self hD0
  obtain ⟨A, hA⟩ : ∃ A, A = adr (mW cI o q0 q1 f x M h) := ⟨_, rfl⟩
  rw [← hA] at hD
  have hS : va_S A s.heap s.heap [] := va_S.rf
  obtain ⟨Q, hQ⟩ : ∃ Q, Q = MQ below (va_Qi (fun (r9 : Int32) (u9 : (Nat → Int32) × (Nat → Int32)) => (r9, u9) = fX7_sit f M v tb z) (fun u9 t => va_P (dC, dI) vwCl ((fun (v9 : (Nat → Int32) × (Nat → Int32)) => mW cI o q0 q1 v9.1 x v9.2 h) u9) t.heap) (adr (mW cI o q0 q1 f x M h))) args s 0 0 (adr (mW cI o q0 q1 f x M h)) := ⟨_, rfl⟩
  rw [← hQ]
  rw [← hA] at hQ
  have hl := lv_entry ([.ref o, .int v, .int tb, .int z]) (n := 5) (Nat.le_of_ble_eq_true rfl)
  rw [ha, lg_entry_eq, ← ha]
  generalize (lg_sl ([.ref o, .int v, .int tb, .int z]) ++ List.replicate (5 - (lg_sl ([.ref o, .int v, .int tb, .int z])).length) Slot.unset).toArray = ls at hl ⊢
  have hl : lv_has ls 5 [(0, .ref o), (1, .int v), (2, .int tb), (3, .int z)] := hl
  show W p l e rmX7_sit s m args below meth c s.heap [] 0 0 Q (F0 m 0 ls [])
  have hF : fX7_sit f M v tb z = fX7_sit f M v tb z := rfl
  refine lv_aload_n hx hb dX7_sit_0 rfl (lv_at hl 0 rfl) ?_
  refine lv_iload_n hx hb dX7_sit_1 rfl (lv_at hl 1 rfl) ?_
  refine k_callb (W.runV (As := [.int v]) (rest := []) ⟨hx, hb, hml, hown, hts0⟩ (mX7_isGuest l dC dI cI o q0 q1 f x M h v) (cwV 1 hts0 (gi_V u_928 u_930 us_19 u_7 u_931) rfl rfl rfl (by decide +kernel) ⟨Nat.le_of_ble_eq_true rfl, Nat.le_of_ble_eq_true rfl⟩) (pcR_V (ci := 5) (q0 := 0) hP hK hn rfl rfl) rfl rfl hl.1 rfl (lv_room (Nat.le_of_ble_eq_true rfl)) dX7_sit_2 ⟨Nat.zero_le _, Nat.zero_le _⟩) (fun br2 => ?_)
  have K5 : ∀ (v5_0 : Nat), v5_0 = (if (fX7_isGuest f v) = 0 then 0 else (if (fX7_isSeat f tb z) = 0 then 0 else 1)) → ∀ (H : Heap) (locs : List Loc), va_P (dC, dI) vwCl (mW cI o q0 q1 f x M h) H → va_D A (mW cI o q0 q1 f x M h) → va_S A s.heap H locs → ∀ (ls : Array Slot), lv_has ls 5 [(0, .ref o), (1, .int v), (2, .int tb), (3, .int z)] → W p l e rmX7_sit s m args below meth c H locs 0 0 Q (F0 m 22 ls [.int (nI v5_0)]) := by
    intro v5_0 hz5 H locs hP hD hS ls hl
    have hz := hz5
    have bz5 : (nI v5_0 : Int32) = 0 ∨ nI v5_0 = 1 := by rw [hz]; (repeat' split); all_goals first | exact Or.inl rfl | exact Or.inr rfl
    have hF := bd_at hF hz
    refine lv_istore (lv' := [(4, .int (nI v5_0)), (0, .ref o), (1, .int v), (2, .int tb), (3, .int z)]) hx hb dX7_sit_22 hl (by decide) rfl (fun ls hl => ?_)
    refine lv_aload_n hx hb dX7_sit_24 rfl (lv_at hl 1 rfl) ?_
    refine lv_iload hx hb dX7_sit_25 (lv_at hl 0 rfl) ?_
    have K27 : ∀ (v27_0 : Nat), v27_0 = (if (nI v5_0) = 0 then 1 else (if (fX7_reason f 0 v.toNatClampNeg tb z) ≤ 0 then 0 else 2)) → ∀ (H : Heap) (locs : List Loc), va_P (dC, dI) vwCl (mW cI o q0 q1 f x M h) H → va_D A (mW cI o q0 q1 f x M h) → va_S A s.heap H locs → ∀ (ls : Array Slot), lv_has ls 5 [(4, .int (nI v5_0)), (0, .ref o), (1, .int v), (2, .int tb), (3, .int z)] → W p l e rmX7_sit s m args below meth c H locs 0 0 Q (F0 m 50 ls [.int (nI v27_0), .ref o]) := by
      intro v27_0 hz27 H locs hP hD hS ls hl
      have hz := hz27
      have hF := bd_at hF hz
      refine k_muti (Wd := (fun (v9 : (Nat → Int32)) => mW cI o q0 q1 f x v9 h)) (va_runV (As := [.int (nI v27_0)]) (rest := []) ⟨hx, hb, hml, hown, hts0⟩ (mX7_holds l dC dI cI o q0 q1 f x M h (nI v27_0)) (cwV 1 hts0 (gi_V u_908 u_910 us_15 u_7 u_911) rfl rfl rfl (by decide +kernel) ⟨Nat.le_of_ble_eq_true rfl, Nat.le_of_ble_eq_true rfl⟩) (pcM_V (ci := 5) (q0 := 0) hP hK hn hD rfl rfl) rfl rfl hl.1 rfl (lv_room (Nat.le_of_ble_eq_true rfl)) dX7_sit_50 ⟨Nat.zero_le _, Nat.zero_le _⟩) hP hD hS [0, 1, 2] rfl rfl (fun _ => rfl) (fun r50 U50 H locs hU50 hP hD hS => ?_)
      obtain ⟨hU50, br50⟩ := hU50
      have hP : va_P (dC, dI) vwCl (mW cI o q0 q1 f x U50 h) H := hP
      have hD : va_D A (mW cI o q0 q1 f x U50 h) := hD
      have hF := bd2_at hF hU50
      refine lv_if_ne (tgt := 58) hx hb dX7_sit_53 (by decide) (fun c_53 => ?_) (fun c_53 => ?_)
      · have hF := hF.trans (if_neg c_53)
        have hv0 := holds_ok hU50 c_53
        rw [hz27] at hv0
        have k1 : ¬ (nI v5_0) = 0 := fun z => by rw [if_pos z] at hv0; exact absurd hv0 (by decide)
        rw [hz5] at k1
        have k2 : ¬ fX7_isGuest f v = 0 := fun z => k1 (by rw [if_pos z]; rfl)
        obtain ⟨hvn, hvl, hvb⟩ := in_nat (v := v) (x := f 0) (n := 16) hR.2.1 (by decide) k2
        have k3 : ¬ fX7_isSeat f tb z = 0 := fun z9 => k1 (by rw [if_neg k2, if_pos z9]; rfl)
        have hvG := RO_lt hL hvl
        have em2 : U50 1 = nI m1 := (holds_M hU50 (by decide)).trans em1
        refine lv_aload_n hx hb dX7_sit_58 rfl (lv_at hl 1 rfl) ?_
        refine k_mutv (Wd := (fun (v9 : (Nat → Int32) × (Nat → Int32)) => mW cI o q0 q1 v9.1 x v9.2 h)) (va_runV (As := []) (rest := []) ⟨hx, hb, hml, hown, hts0⟩ (mX7_save l dC dI cI o q0 q1 f x U50 h  m1 hm1 em2) (cwV 0 hts0 (gi_V u_912 u_914 us_16 u_7 u_915) rfl rfl rfl (by decide +kernel) ⟨Nat.le_of_ble_eq_true rfl, Nat.le_of_ble_eq_true rfl⟩) (pcM_V (ci := 5) (q0 := 0) hP hK hn hD rfl rfl) rfl rfl hl.1 rfl (lv_room (Nat.le_of_ble_eq_true rfl)) dX7_sit_59 ⟨Nat.zero_le _, Nat.zero_le _⟩) hP hD hS [0, 1, 2] rfl rfl (fun _ => rfl) (fun U59 H locs hU59 hP hD hS => ?_)
        have hP : va_P (dC, dI) vwCl (mW cI o q0 q1 U59.1 x U59.2 h) H := hP
        have hD : va_D A (mW cI o q0 q1 U59.1 x U59.2 h) := hD
        have hF := bd_at hF hU59
        have hR2 : RW U59.1 0 := by rw [hU59]; exact RW_save hm1 em2 hR
        obtain ⟨-, rG20, rT20, rF20, rS20, -, -⟩ := id hR2
        have hg2 : U59.1 0 = nI (U59.1 0).toNatClampNeg := rG20.e (by decide)
        have rg2 : (U59.1 0).toNatClampNeg ≤ 16 := rG20.c (by decide)
        have ht2 : U59.1 1 = nI (U59.1 1).toNatClampNeg := rT20.e (by decide)
        have rt2 : (U59.1 1).toNatClampNeg ≤ 4 := rT20.c (by decide)
        have hL2 : RO U59.1 0 G9 L9 := by rw [hU59]; exact RO_save hm1 em2 hL
        obtain ⟨S0, hS0, hSe⟩ := RO_midS hL2 hvG
        refine lv_aload_n hx hb dX7_sit_62 rfl (lv_at hl 1 rfl) ?_
        refine lv_iconst (v := 0) hx hb dX7_sit_63 (by decide) ?_
        refine lv_iload_n hx hb dX7_sit_64 rfl (lv_at hl 2 rfl) ?_
        refine lv_tope (y := (nI v.toNatClampNeg)) hvn ?_
        refine lv_iload_n hx hb dX7_sit_65 rfl (lv_at hl 3 rfl) ?_
        refine lv_iload_n hx hb dX7_sit_66 rfl (lv_at hl 4 rfl) ?_
        refine k_mutv (Wd := (fun (v9 : (Nat → Int32)) => mW cI o q0 q1 v9 x U59.2 h)) (va_runV (As := [.int 0, .int (nI v.toNatClampNeg), .int tb, .int z]) (rest := []) ⟨hx, hb, hml, hown, hts0⟩ (mX7_sitsDown l dC dI cI o q0 q1 U59.1 x U59.2 h 0 v.toNatClampNeg tb z hR2 hvb S0 hS0 hSe) (cwV 4 hts0 (gi_V u_1000 u_1002 us_29 u_7 u_1003) rfl rfl rfl (by decide +kernel) ⟨Nat.le_of_ble_eq_true rfl, Nat.le_of_ble_eq_true rfl⟩) (pcM_V (ci := 5) (q0 := 0) hP hK hn hD rfl rfl) rfl rfl hl.1 rfl (lv_room (Nat.le_of_ble_eq_true rfl)) dX7_sit_67 ⟨Nat.zero_le _, Nat.zero_le _⟩) hP hD hS [0, 1, 2] rfl rfl (fun _ => rfl) (fun U67 H locs hU67 hP hD hS => ?_)
        have hP : va_P (dC, dI) vwCl (mW cI o q0 q1 U67 x U59.2 h) H := hP
        have hD : va_D A (mW cI o q0 q1 U67 x U59.2 h) := hD
        have hF := bd_at hF hU67
        have hL3 := RO_sits hL2 hvG (tb := tb) (z := z) (isSeat_tw hR.2.2.1 k3).1 (isSeat_tw hR.2.2.1 k3).2
        rw [← hU67] at hL3
        refine lv_aload_n hx hb dX7_sit_70 rfl (lv_at hl 1 rfl) ?_
        refine lv_iconst (v := 0) hx hb dX7_sit_71 (by decide) ?_
        refine lv_iconst (v := (-1)) hx hb dX7_sit_72 (by decide) ?_
        refine k_calli (W.runV (As := [.int 0, .int (-1)]) (rest := []) ⟨hx, hb, hml, hown, hts0⟩ (mX7_points l dC dI cI o q0 q1 U67 x U59.2 h 0 (-1) hL3.1) (cwV 2 hts0 (gi_V u_1004 u_1006 us_30 u_7 u_1007) rfl rfl rfl (by decide +kernel) ⟨Nat.le_of_ble_eq_true rfl, Nat.le_of_ble_eq_true rfl⟩) (pcR_V (ci := 5) (q0 := 0) hP hK hn rfl rfl) rfl rfl hl.1 rfl (lv_room (Nat.le_of_ble_eq_true rfl)) dX7_sit_73 ⟨Nat.zero_le _, Nat.zero_le _⟩) ?_
        rw [hQ]
        exact W.iret (v := (fX7_points U67 0 (-1))) hx hb hr (fun t ht hW => ⟨⟨(fX7_points U67 0 (-1)), (U67, U59.2), rfl, hF.symm, toH ht hP⟩, hS.F ht⟩) hS.2.2 dX7_sit_76
      have hF := hF.trans (if_pos c_53)
      refine lv_iconst (v := 0) hx hb dX7_sit_56 (by decide) ?_
      rw [hQ]
      exact W.iret (v := 0) hx hb hr (fun t ht hW => ⟨⟨0, (f, U50), rfl, hF.symm, toH ht hP⟩, hS.F ht⟩) hS.2.2 dX7_sit_57
    have hF : ((if (nI v5_0) = 0 then 1 else (if (fX7_reason f 0 v.toNatClampNeg tb z) ≤ 0 then 0 else 2)) : Nat) = (if (nI v5_0) = 0 then 1 else (if (fX7_reason f 0 v.toNatClampNeg tb z) ≤ 0 then 0 else 2)) := rfl
    refine lv_if_ne (tgt := 34) hx hb dX7_sit_27 (by decide) (fun c_27 => ?_) (fun c_27 => ?_)
    · have hF := hF.trans (if_neg c_27)
      have k1 := c_27
      rw [hz5] at k1
      have k2 : ¬ fX7_isGuest f v = 0 := fun z => k1 (by rw [if_pos z]; rfl)
      obtain ⟨hvn, hvl, hvb⟩ := in_nat (v := v) (x := f 0) (n := 16) hR.2.1 (by decide) k2
      refine lv_aload_n hx hb dX7_sit_34 rfl (lv_at hl 1 rfl) ?_
      refine lv_iconst (v := 0) hx hb dX7_sit_35 (by decide) ?_
      refine lv_iload_n hx hb dX7_sit_36 rfl (lv_at hl 2 rfl) ?_
      refine lv_tope (y := (nI v.toNatClampNeg)) hvn ?_
      refine lv_iload_n hx hb dX7_sit_37 rfl (lv_at hl 3 rfl) ?_
      refine lv_iload_n hx hb dX7_sit_38 rfl (lv_at hl 4 rfl) ?_
      refine k_calli (W.runV (As := [.int 0, .int (nI v.toNatClampNeg), .int tb, .int z]) (rest := [.ref o]) ⟨hx, hb, hml, hown, hts0⟩ (mX7_reason l dC dI cI o q0 q1 f x M h 0 v.toNatClampNeg tb z (by first | omega | assumption) (by first | omega | assumption)) (cwV 4 hts0 (gi_V u_989 u_991 us_27 u_7 u_992) rfl rfl rfl (by decide +kernel) ⟨Nat.le_of_ble_eq_true rfl, Nat.le_of_ble_eq_true rfl⟩) (pcR_V (ci := 5) (q0 := 0) hP hK hn rfl rfl) rfl rfl hl.1 rfl (lv_room (Nat.le_of_ble_eq_true rfl)) dX7_sit_39 ⟨Nat.zero_le _, Nat.zero_le _⟩) ?_
      refine lv_if_le (tgt := 49) hx hb dX7_sit_42 (by decide) (fun c_42 => ?_) (fun c_42 => ?_)
      · have hF := hF.trans (if_pos c_42)
        refine lv_iconst (v := 0) hx hb dX7_sit_49 (by decide) ?_
        exact K27 _ hF.symm _ _ hP hD hS  ls (lv_sub hl [0, 1, 2, 3, 4] rfl)
      have hF := hF.trans (if_neg c_42)
      refine lv_iconst (v := 2) hx hb dX7_sit_45 (by decide) ?_
      refine lv_goto (tgt := 50) hx hb dX7_sit_46 (by decide) ?_
      exact K27 _ hF.symm _ _ hP hD hS  ls (lv_sub hl [0, 1, 2, 3, 4] rfl)
    have hF := hF.trans (if_pos c_27)
    refine lv_iconst (v := 1) hx hb dX7_sit_30 (by decide) ?_
    refine lv_goto (tgt := 50) hx hb dX7_sit_31 (by decide) ?_
    exact K27 _ hF.symm _ _ hP hD hS  ls (lv_sub hl [0, 1, 2, 3, 4] rfl)
  have hF : ((if (fX7_isGuest f v) = 0 then 0 else (if (fX7_isSeat f tb z) = 0 then 0 else 1)) : Nat) = (if (fX7_isGuest f v) = 0 then 0 else (if (fX7_isSeat f tb z) = 0 then 0 else 1)) := rfl
  refine lv_if_eq (tgt := 21) hx hb dX7_sit_5 (by decide) (fun c_5 => ?_) (fun c_5 => ?_)
  · have hF := hF.trans (if_pos c_5)
    refine lv_iconst (v := 0) hx hb dX7_sit_21 (by decide) ?_
    exact K5 _ hF.symm _ _ hP hD hS  ls (lv_sub hl [0, 1, 2, 3] rfl)
  have hF := hF.trans (if_neg c_5)
  refine lv_aload_n hx hb dX7_sit_8 rfl (lv_at hl 0 rfl) ?_
  refine lv_iload_n hx hb dX7_sit_9 rfl (lv_at hl 2 rfl) ?_
  refine lv_iload_n hx hb dX7_sit_10 rfl (lv_at hl 3 rfl) ?_
  refine k_callb (W.runV (As := [.int tb, .int z]) (rest := []) ⟨hx, hb, hml, hown, hts0⟩ (mX7_isSeat l dC dI cI o q0 q1 f x M h tb z hR.2.2.1) (cwV 2 hts0 (gi_V u_981 u_983 us_25 u_7 u_984) rfl rfl rfl (by decide +kernel) ⟨Nat.le_of_ble_eq_true rfl, Nat.le_of_ble_eq_true rfl⟩) (pcR_V (ci := 5) (q0 := 0) hP hK hn rfl rfl) rfl rfl hl.1 rfl (lv_room (Nat.le_of_ble_eq_true rfl)) dX7_sit_11 ⟨Nat.zero_le _, Nat.zero_le _⟩) (fun br11 => ?_)
  refine lv_if_eq (tgt := 21) hx hb dX7_sit_14 (by decide) (fun c_14 => ?_) (fun c_14 => ?_)
  · have hF := hF.trans (if_pos c_14)
    refine lv_iconst (v := 0) hx hb dX7_sit_21 (by decide) ?_
    exact K5 _ hF.symm _ _ hP hD hS  ls (lv_sub hl [0, 1, 2, 3] rfl)
  have hF := hF.trans (if_neg c_14)
  refine lv_iconst (v := 1) hx hb dX7_sit_17 (by decide) ?_
  refine lv_goto (tgt := 22) hx hb dX7_sit_18 (by decide) ?_
  exact K5 _ hF.symm _ _ hP hD hS  ls (lv_sub hl [0, 1, 2, 3] rfl)

def fX7_rise (f : Nat → Int32) (M : Nat → Int32) (v : Int32) : Int32 × ((Nat → Int32) × (Nat → Int32)) :=
  (bd ((if (fX7_isGuest f v) = 0 then 1 else (if (fX7_of f 0 v.toNatClampNeg 3) = (-1) then 2 else 0)) : Nat) (fun v8_0 => (bd2 (fX7_holds M (nI v8_0)) (fun r31 U31 => (if r31 = 0 then (0, (f, U31)) else (bd (fX7_save f U31) (fun U40 => (bd (fX7_standsUp U40.1 0 v.toNatClampNeg) (fun U46 => ((fX7_points U46 0 (-1)), (U46, U40.2)))))))))))
abbrev rmX7_rise : Room := { frames := 4, cells := 0, slots := 0, locals := 96 }
set_option maxHeartbeats 4000000 in
set_option maxRecDepth 100000 in
theorem mX7_rise (l : Launch) (dC : Nat → ClassId) (dI : Nat → Nat → Nat) (cI : ClassId) (o q0 q1 : Nat) (f x M : Nat → Int32) (h : Int64) (v : Int32) (hR : RW f 0) (G9 : Nat) (L9 : List Nat) (hL : RO f 0 G9 L9) (m1 : Nat) (hm1 : m1 ≤ 6) (em1 : M 1 = nI m1) : Met l yX7_rise (ws_ yX7_rise cX7_rise 3 (some .int)) rmX7_rise (pcM (dC, dI) [(cI, .int)] (mW cI o q0 q1 f x M h) [.ref o, .int v]) (va_Qi (fun (r9 : Int32) (u9 : (Nat → Int32) × (Nat → Int32)) => (r9, u9) = fX7_rise f M v) (fun u9 t => va_P (dC, dI) vwCl ((fun (v9 : (Nat → Int32) × (Nat → Int32)) => mW cI o q0 q1 v9.1 x v9.2 h) u9) t.heap) (adr (mW cI o q0 q1 f x M h))) 0 0 (adr (mW cI o q0 q1 f x M h)) := by
  refine Met.ofW (cc := cX7_rise) (maxL := 3) (ret := (some .int)) (by decide) rfl ?_
  intro p e s m args below meth c s₁ B hml hv
  obtain ⟨ha, hP, hK, hn, hD0⟩ := hv
  have hx := B.exec
  have hb := B.bytes
  have hr := B.returns
  have hts0 := atoms_spec (ws := (ws_ yX7_rise cX7_rise 3 (some .int))) B.pre
  have hts : ∀ w ∈ lw_all, w.before args s = true := fun w h => hts0 w (List.mem_cons_of_mem _ h)
  have hown : s.vm.findClass RX7 = some m.cls := findClass_of_methodNamed B.named
  have hlocks := B.notSynchronized
  have hD := adr_self hD0
  obtain ⟨A, hA⟩ : ∃ A, A = adr (mW cI o q0 q1 f x M h) := ⟨_, rfl⟩
  rw [← hA] at hD
  have hS : va_S A s.heap s.heap [] := va_S.rf
  obtain ⟨Q, hQ⟩ : ∃ Q, Q = MQ below (va_Qi (fun (r9 : Int32) (u9 : (Nat → Int32) × (Nat → Int32)) => (r9, u9) = fX7_rise f M v) (fun u9 t => va_P (dC, dI) vwCl ((fun (v9 : (Nat → Int32) × (Nat → Int32)) => mW cI o q0 q1 v9.1 x v9.2 h) u9) t.heap) (adr (mW cI o q0 q1 f x M h))) args s 0 0 (adr (mW cI o q0 q1 f x M h)) := ⟨_, rfl⟩
  rw [← hQ]
  rw [← hA] at hQ
  have hl := lv_entry ([.ref o, .int v]) (n := 3) (Nat.le_of_ble_eq_true rfl)
  rw [ha, lg_entry_eq, ← ha]
  generalize (lg_sl ([.ref o, .int v]) ++ List.replicate (3 - (lg_sl ([.ref o, .int v])).length) Slot.unset).toArray = ls at hl ⊢
  have hl : lv_has ls 3 [(0, .ref o), (1, .int v)] := hl
  show W p l e rmX7_rise s m args below meth c s.heap [] 0 0 Q (F0 m 0 ls [])
  have hF : fX7_rise f M v = fX7_rise f M v := rfl
  refine lv_aload_n hx hb dX7_rise_0 rfl (lv_at hl 0 rfl) ?_
  refine lv_iload_n hx hb dX7_rise_1 rfl (lv_at hl 1 rfl) ?_
  refine k_callb (W.runV (As := [.int v]) (rest := []) ⟨hx, hb, hml, hown, hts0⟩ (mX7_isGuest l dC dI cI o q0 q1 f x M h v) (cwV 1 hts0 (gi_V u_928 u_930 us_19 u_7 u_931) rfl rfl rfl (by decide +kernel) ⟨Nat.le_of_ble_eq_true rfl, Nat.le_of_ble_eq_true rfl⟩) (pcR_V (ci := 5) (q0 := 0) hP hK hn rfl rfl) rfl rfl hl.1 rfl (lv_room (Nat.le_of_ble_eq_true rfl)) dX7_rise_2 ⟨Nat.zero_le _, Nat.zero_le _⟩) (fun br2 => ?_)
  refine lv_istore_n (lv' := [(2, .int (fX7_isGuest f v)), (0, .ref o), (1, .int v)]) hx hb dX7_rise_5 rfl hl (by decide) rfl (fun ls hl => ?_)
  refine lv_aload_n hx hb dX7_rise_6 rfl (lv_at hl 1 rfl) ?_
  refine lv_iload_n hx hb dX7_rise_7 rfl (lv_at hl 0 rfl) ?_
  have K8 : ∀ (v8_0 : Nat), v8_0 = (if (fX7_isGuest f v) = 0 then 1 else (if (fX7_of f 0 v.toNatClampNeg 3) = (-1) then 2 else 0)) → ∀ (H : Heap) (locs : List Loc), va_P (dC, dI) vwCl (mW cI o q0 q1 f x M h) H → va_D A (mW cI o q0 q1 f x M h) → va_S A s.heap H locs → ∀ (ls : Array Slot), lv_has ls 3 [(2, .int (fX7_isGuest f v)), (0, .ref o), (1, .int v)] → W p l e rmX7_rise s m args below meth c H locs 0 0 Q (F0 m 31 ls [.int (nI v8_0), .ref o]) := by
    intro v8_0 hz8 H locs hP hD hS ls hl
    have hz := hz8
    have hF := bd_at hF hz
    refine k_muti (Wd := (fun (v9 : (Nat → Int32)) => mW cI o q0 q1 f x v9 h)) (va_runV (As := [.int (nI v8_0)]) (rest := []) ⟨hx, hb, hml, hown, hts0⟩ (mX7_holds l dC dI cI o q0 q1 f x M h (nI v8_0)) (cwV 1 hts0 (gi_V u_908 u_910 us_15 u_7 u_911) rfl rfl rfl (by decide +kernel) ⟨Nat.le_of_ble_eq_true rfl, Nat.le_of_ble_eq_true rfl⟩) (pcM_V (ci := 5) (q0 := 0) hP hK hn hD rfl rfl) rfl rfl hl.1 rfl (lv_room (Nat.le_of_ble_eq_true rfl)) dX7_rise_31 ⟨Nat.zero_le _, Nat.zero_le _⟩) hP hD hS [0, 1, 2] rfl rfl (fun _ => rfl) (fun r31 U31 H locs hU31 hP hD hS => ?_)
    obtain ⟨hU31, br31⟩ := hU31
    have hP : va_P (dC, dI) vwCl (mW cI o q0 q1 f x U31 h) H := hP
    have hD : va_D A (mW cI o q0 q1 f x U31 h) := hD
    have hF := bd2_at hF hU31
    refine lv_if_ne (tgt := 39) hx hb dX7_rise_34 (by decide) (fun c_34 => ?_) (fun c_34 => ?_)
    · have hF := hF.trans (if_neg c_34)
      have hv0 := holds_ok hU31 c_34
      rw [hz8] at hv0
      have k2 : ¬ (fX7_isGuest f v) = 0 := fun z => by rw [if_pos z] at hv0; exact absurd hv0 (by decide)
      obtain ⟨hvn, hvl, hvb⟩ := in_nat (v := v) (x := f 0) (n := 16) hR.2.1 (by decide) k2
      have em2 : U31 1 = nI m1 := (holds_M hU31 (by decide)).trans em1
      refine lv_aload_n hx hb dX7_rise_39 rfl (lv_at hl 1 rfl) ?_
      refine k_mutv (Wd := (fun (v9 : (Nat → Int32) × (Nat → Int32)) => mW cI o q0 q1 v9.1 x v9.2 h)) (va_runV (As := []) (rest := []) ⟨hx, hb, hml, hown, hts0⟩ (mX7_save l dC dI cI o q0 q1 f x U31 h  m1 hm1 em2) (cwV 0 hts0 (gi_V u_912 u_914 us_16 u_7 u_915) rfl rfl rfl (by decide +kernel) ⟨Nat.le_of_ble_eq_true rfl, Nat.le_of_ble_eq_true rfl⟩) (pcM_V (ci := 5) (q0 := 0) hP hK hn hD rfl rfl) rfl rfl hl.1 rfl (lv_room (Nat.le_of_ble_eq_true rfl)) dX7_rise_40 ⟨Nat.zero_le _, Nat.zero_le _⟩) hP hD hS [0, 1, 2] rfl rfl (fun _ => rfl) (fun U40 H locs hU40 hP hD hS => ?_)
      have hP : va_P (dC, dI) vwCl (mW cI o q0 q1 U40.1 x U40.2 h) H := hP
      have hD : va_D A (mW cI o q0 q1 U40.1 x U40.2 h) := hD
      have hF := bd_at hF hU40
      have hR2 : RW U40.1 0 := by rw [hU40]; exact RW_save hm1 em2 hR
      obtain ⟨-, rG20, rT20, rF20, rS20, -, -⟩ := id hR2
      have hg2 : U40.1 0 = nI (U40.1 0).toNatClampNeg := rG20.e (by decide)
      have rg2 : (U40.1 0).toNatClampNeg ≤ 16 := rG20.c (by decide)
      have ht2 : U40.1 1 = nI (U40.1 1).toNatClampNeg := rT20.e (by decide)
      have rt2 : (U40.1 1).toNatClampNeg ≤ 4 := rT20.c (by decide)
      have hL2 : RO U40.1 0 G9 L9 := by rw [hU40]; exact RO_save hm1 em2 hL
      refine lv_aload_n hx hb dX7_rise_43 rfl (lv_at hl 1 rfl) ?_
      refine lv_iconst (v := 0) hx hb dX7_rise_44 (by decide) ?_
      refine lv_iload_n hx hb dX7_rise_45 rfl (lv_at hl 2 rfl) ?_
      refine lv_tope (y := (nI v.toNatClampNeg)) hvn ?_
      refine k_mutv (Wd := (fun (v9 : (Nat → Int32)) => mW cI o q0 q1 v9 x U40.2 h)) (va_runV (As := [.int 0, .int (nI v.toNatClampNeg)]) (rest := []) ⟨hx, hb, hml, hown, hts0⟩ (mX7_standsUp l dC dI cI o q0 q1 U40.1 x U40.2 h 0 v.toNatClampNeg hR2 hvb) (cwV 2 hts0 (gi_V u_962 u_964 us_24 u_7 u_965) rfl rfl rfl (by decide +kernel) ⟨Nat.le_of_ble_eq_true rfl, Nat.le_of_ble_eq_true rfl⟩) (pcM_V (ci := 5) (q0 := 0) hP hK hn hD rfl rfl) rfl rfl hl.1 rfl (lv_room (Nat.le_of_ble_eq_true rfl)) dX7_rise_46 ⟨Nat.zero_le _, Nat.zero_le _⟩) hP hD hS [0, 1, 2] rfl rfl (fun _ => rfl) (fun U46 H locs hU46 hP hD hS => ?_)
      have hP : va_P (dC, dI) vwCl (mW cI o q0 q1 U46 x U40.2 h) H := hP
      have hD : va_D A (mW cI o q0 q1 U46 x U40.2 h) := hD
      have hF := bd_at hF hU46
      have hL3 := RO_stands hL2 hvb
      rw [← hU46] at hL3
      refine lv_aload_n hx hb dX7_rise_49 rfl (lv_at hl 1 rfl) ?_
      refine lv_iconst (v := 0) hx hb dX7_rise_50 (by decide) ?_
      refine lv_iconst (v := (-1)) hx hb dX7_rise_51 (by decide) ?_
      refine k_calli (W.runV (As := [.int 0, .int (-1)]) (rest := []) ⟨hx, hb, hml, hown, hts0⟩ (mX7_points l dC dI cI o q0 q1 U46 x U40.2 h 0 (-1) hL3.1) (cwV 2 hts0 (gi_V u_1004 u_1006 us_30 u_7 u_1007) rfl rfl rfl (by decide +kernel) ⟨Nat.le_of_ble_eq_true rfl, Nat.le_of_ble_eq_true rfl⟩) (pcR_V (ci := 5) (q0 := 0) hP hK hn rfl rfl) rfl rfl hl.1 rfl (lv_room (Nat.le_of_ble_eq_true rfl)) dX7_rise_52 ⟨Nat.zero_le _, Nat.zero_le _⟩) ?_
      rw [hQ]
      exact W.iret (v := (fX7_points U46 0 (-1))) hx hb hr (fun t ht hW => ⟨⟨(fX7_points U46 0 (-1)), (U46, U40.2), rfl, hF.symm, toH ht hP⟩, hS.F ht⟩) hS.2.2 dX7_rise_55
    have hF := hF.trans (if_pos c_34)
    refine lv_iconst (v := 0) hx hb dX7_rise_37 (by decide) ?_
    rw [hQ]
    exact W.iret (v := 0) hx hb hr (fun t ht hW => ⟨⟨0, (f, U31), rfl, hF.symm, toH ht hP⟩, hS.F ht⟩) hS.2.2 dX7_rise_38
  have hF : ((if (fX7_isGuest f v) = 0 then 1 else (if (fX7_of f 0 v.toNatClampNeg 3) = (-1) then 2 else 0)) : Nat) = (if (fX7_isGuest f v) = 0 then 1 else (if (fX7_of f 0 v.toNatClampNeg 3) = (-1) then 2 else 0)) := rfl
  refine lv_if_ne (tgt := 15) hx hb dX7_rise_8 (by decide) (fun c_8 => ?_) (fun c_8 => ?_)
  · have hF := hF.trans (if_neg c_8)
    obtain ⟨hvn, hvl, hvb⟩ := in_nat (v := v) (x := f 0) (n := 16) hR.2.1 (by decide) c_8
    refine lv_aload_n hx hb dX7_rise_15 rfl (lv_at hl 1 rfl) ?_
    refine lv_iconst (v := 0) hx hb dX7_rise_16 (by decide) ?_
    refine lv_iload_n hx hb dX7_rise_17 rfl (lv_at hl 2 rfl) ?_
    refine lv_tope (y := (nI v.toNatClampNeg)) hvn ?_
    refine lv_iconst (v := 3) hx hb dX7_rise_18 (by decide) ?_
    refine k_calli (W.runV (As := [.int 0, .int (nI v.toNatClampNeg), .int 3]) (rest := [.ref o]) ⟨hx, hb, hml, hown, hts0⟩ (mX7_of l dC dI cI o q0 q1 f x M h 0 v.toNatClampNeg 3 (by first | omega | assumption)) (cwV 3 hts0 (gi_V u_932 u_934 us_20 u_7 u_935) rfl rfl rfl (by decide +kernel) ⟨Nat.le_of_ble_eq_true rfl, Nat.le_of_ble_eq_true rfl⟩) (pcR_V (ci := 5) (q0 := 0) hP hK hn rfl rfl) rfl rfl hl.1 rfl (lv_room (Nat.le_of_ble_eq_true rfl)) dX7_rise_19 ⟨Nat.zero_le _, Nat.zero_le _⟩) ?_
    refine lv_iconst (v := (-1)) hx hb dX7_rise_22 (by decide) ?_
    refine lv_icmp_ne (tgt := 30) hx hb dX7_rise_23 (by decide) (fun c_23 => ?_) (fun c_23 => ?_)
    · have hF := hF.trans (if_neg c_23)
      refine lv_iconst (v := 0) hx hb dX7_rise_30 (by decide) ?_
      exact K8 _ hF.symm _ _ hP hD hS  ls (lv_sub hl [0, 1, 2] rfl)
    have hF := hF.trans (if_pos c_23)
    refine lv_iconst (v := 2) hx hb dX7_rise_26 (by decide) ?_
    refine lv_goto (tgt := 31) hx hb dX7_rise_27 (by decide) ?_
    exact K8 _ hF.symm _ _ hP hD hS  ls (lv_sub hl [0, 1, 2] rfl)
  have hF := hF.trans (if_pos c_8)
  refine lv_iconst (v := 1) hx hb dX7_rise_11 (by decide) ?_
  refine lv_goto (tgt := 31) hx hb dX7_rise_12 (by decide) ?_
  exact K8 _ hF.symm _ _ hP hD hS  ls (lv_sub hl [0, 1, 2] rfl)

def fX7_seatAll (f : Nat → Int32) (M : Nat → Int32) : Int32 × ((Nat → Int32) × (Nat → Int32)) :=
  (bd (fX7_save f (upd M 0 0)) (fun U6 => (bd2 (fX7_seatsAll U6.1 0) (fun r11 U11 => (r11, (U11, U6.2))))))
abbrev rmX7_seatAll : Room := { frames := 7, cells := 0, slots := 0, locals := 173 }
set_option maxHeartbeats 4000000 in
set_option maxRecDepth 100000 in
theorem mX7_seatAll (l : Launch) (dC : Nat → ClassId) (dI : Nat → Nat → Nat) (cI : ClassId) (o q0 q1 : Nat) (f x M : Nat → Int32) (h : Int64) (hR : RW f 0) (G9 : Nat) (L9 : List Nat) (hL : RO f 0 G9 L9) (m1 : Nat) (hm1 : m1 ≤ 6) (em1 : M 1 = nI m1) : Met l yX7_seatAll (ws_ yX7_seatAll cX7_seatAll 1 (some .int)) rmX7_seatAll (pcM (dC, dI) [(cI, .int)] (mW cI o q0 q1 f x M h) [.ref o]) (va_Qi (fun (r9 : Int32) (u9 : (Nat → Int32) × (Nat → Int32)) => (r9, u9) = fX7_seatAll f M) (fun u9 t => va_P (dC, dI) vwCl ((fun (v9 : (Nat → Int32) × (Nat → Int32)) => mW cI o q0 q1 v9.1 x v9.2 h) u9) t.heap) (adr (mW cI o q0 q1 f x M h))) 0 0 (adr (mW cI o q0 q1 f x M h)) := by
  refine Met.ofW (cc := cX7_seatAll) (maxL := 1) (ret := (some .int)) (by decide) rfl ?_
  intro p e s m args below meth c s₁ B hml hv
  obtain ⟨ha, hP, hK, hn, hD0⟩ := hv
  have hx := B.exec
  have hb := B.bytes
  have hr := B.returns
  have hts0 := atoms_spec (ws := (ws_ yX7_seatAll cX7_seatAll 1 (some .int))) B.pre
  have hts : ∀ w ∈ lw_all, w.before args s = true := fun w h => hts0 w (List.mem_cons_of_mem _ h)
  have hown : s.vm.findClass RX7 = some m.cls := findClass_of_methodNamed B.named
  have hlocks := B.notSynchronized
  have htX7 : ∀ w ∈ wsX70, w.before args s = true := fun w h => hts w (wX7 w h)
  have hD := adr_self hD0
  obtain ⟨A, hA⟩ : ∃ A, A = adr (mW cI o q0 q1 f x M h) := ⟨_, rfl⟩
  rw [← hA] at hD
  have hS : va_S A s.heap s.heap [] := va_S.rf
  obtain ⟨Q, hQ⟩ : ∃ Q, Q = MQ below (va_Qi (fun (r9 : Int32) (u9 : (Nat → Int32) × (Nat → Int32)) => (r9, u9) = fX7_seatAll f M) (fun u9 t => va_P (dC, dI) vwCl ((fun (v9 : (Nat → Int32) × (Nat → Int32)) => mW cI o q0 q1 v9.1 x v9.2 h) u9) t.heap) (adr (mW cI o q0 q1 f x M h))) args s 0 0 (adr (mW cI o q0 q1 f x M h)) := ⟨_, rfl⟩
  rw [← hQ]
  rw [← hA] at hQ
  have hl := lv_entry ([.ref o]) (n := 1) (Nat.le_of_ble_eq_true rfl)
  rw [ha, lg_entry_eq, ← ha]
  generalize (lg_sl ([.ref o]) ++ List.replicate (1 - (lg_sl ([.ref o])).length) Slot.unset).toArray = ls at hl ⊢
  have hl : lv_has ls 1 [(0, .ref o)] := hl
  show W p l e rmX7_seatAll s m args below meth c s.heap [] 0 0 Q (F0 m 0 ls [])
  have hF : fX7_seatAll f M = fX7_seatAll f M := rfl
  refine lv_aload_n hx hb dX7_seatAll_0 rfl (lv_at hl 0 rfl) ?_
  refine lv_iconst (v := 0) hx hb dX7_seatAll_1 (by decide) ?_
  refine va_put (D := (dC, dI)) (ci := 5) (v := .int 0) (ty := .int) (C := RX7) (T := TX7) (N := 12) hx hb htX7 (fun _ h => h) tyX7 tyX7_ok nmX7 hown hK hP hD hS 0 rfl rfl 0 (by decide) (hts _ u_857) (fun _ h9 => h9) rfl (by decide +kernel) rfl rfl (Nat.le_of_ble_eq_true rfl) dX7_seatAll_2 (fun H locs hP hD hS => ?_)
  have hP : va_P (dC, dI) vwCl (mW cI o q0 q1 f x (upd M 0 0) h) H := hP
  have hD : va_D A (mW cI o q0 q1 f x (upd M 0 0) h) := hD
  have em2 : (upd M 0 0) 1 = nI m1 := em1
  refine lv_aload_n hx hb dX7_seatAll_5 rfl (lv_at hl 0 rfl) ?_
  refine k_mutv (Wd := (fun (v9 : (Nat → Int32) × (Nat → Int32)) => mW cI o q0 q1 v9.1 x v9.2 h)) (va_runV (As := []) (rest := []) ⟨hx, hb, hml, hown, hts0⟩ (mX7_save l dC dI cI o q0 q1 f x (upd M 0 0) h  m1 hm1 em2) (cwV 0 hts0 (gi_V u_912 u_914 us_16 u_7 u_915) rfl rfl rfl (by decide +kernel) ⟨Nat.le_of_ble_eq_true rfl, Nat.le_of_ble_eq_true rfl⟩) (pcM_V (ci := 5) (q0 := 0) hP hK hn hD rfl rfl) rfl rfl hl.1 rfl (lv_room (Nat.le_of_ble_eq_true rfl)) dX7_seatAll_6 ⟨Nat.zero_le _, Nat.zero_le _⟩) hP hD hS [0, 1, 2] rfl rfl (fun _ => rfl) (fun U6 H locs hU6 hP hD hS => ?_)
  have hP : va_P (dC, dI) vwCl (mW cI o q0 q1 U6.1 x U6.2 h) H := hP
  have hD : va_D A (mW cI o q0 q1 U6.1 x U6.2 h) := hD
  have hF := bd_at hF hU6
  have hR2 : RW U6.1 0 := by rw [hU6]; exact RW_save hm1 em2 hR
  obtain ⟨-, rG20, rT20, rF20, rS20, -, -⟩ := id hR2
  have hg2 : U6.1 0 = nI (U6.1 0).toNatClampNeg := rG20.e (by decide)
  have rg2 : (U6.1 0).toNatClampNeg ≤ 16 := rG20.c (by decide)
  have ht2 : U6.1 1 = nI (U6.1 1).toNatClampNeg := rT20.e (by decide)
  have rt2 : (U6.1 1).toNatClampNeg ≤ 4 := rT20.c (by decide)
  have hL2 : RO U6.1 0 G9 L9 := by rw [hU6]; exact RO_save hm1 em2 hL
  refine lv_aload_n hx hb dX7_seatAll_9 rfl (lv_at hl 0 rfl) ?_
  refine lv_iconst (v := 0) hx hb dX7_seatAll_10 (by decide) ?_
  refine k_muti (Wd := (fun (v9 : (Nat → Int32)) => mW cI o q0 q1 v9 x U6.2 h)) (va_runV (As := [.int 0]) (rest := []) ⟨hx, hb, hml, hown, hts0⟩ (mX7_seatsAll l dC dI cI o q0 q1 U6.1 x U6.2 h 0 G9 L9 hL2) (cwV 1 hts0 (gi_V u_1032 u_1034 us_34 u_7 u_1035) rfl rfl rfl (by decide +kernel) ⟨Nat.le_of_ble_eq_true rfl, Nat.le_of_ble_eq_true rfl⟩) (pcM_V (ci := 5) (q0 := 0) hP hK hn hD rfl rfl) rfl rfl hl.1 rfl (lv_room (Nat.le_of_ble_eq_true rfl)) dX7_seatAll_11 ⟨Nat.zero_le _, Nat.zero_le _⟩) hP hD hS [0, 1, 2] rfl rfl (fun _ => rfl) (fun r11 U11 H locs hU11 hP hD hS => ?_)
  have hP : va_P (dC, dI) vwCl (mW cI o q0 q1 U11 x U6.2 h) H := hP
  have hD : va_D A (mW cI o q0 q1 U11 x U6.2 h) := hD
  have hF := bd2_at hF hU11
  rw [hQ]
  exact W.iret (v := r11) hx hb hr (fun t ht hW => ⟨⟨r11, (U11, U6.2), rfl, hF.symm, toH ht hP⟩, hS.F ht⟩) hS.2.2 dX7_seatAll_14

def fX7_append (x : Nat → Int32) (M : Nat → Int32) (v : Int32) : Int32 × ((Nat → Int32) × (Nat → Int32)) :=
  (bd ((if (fX7_in v 33 126) = 0 then 1 else (if (M 3) = 60 then 2 else 0)) : Nat) (fun v9_0 => (bd2 (fX7_holds M (nI v9_0)) (fun r30 U30 => (if r30 = 0 then (0, (x, U30)) else (((U30 3) + 1), ((upd x ((U30 3).toNatClampNeg) v), (upd U30 3 ((U30 3) + 1)))))))))
abbrev rmX7_append : Room := { frames := 1, cells := 0, slots := 0, locals := 22 }
set_option maxHeartbeats 4000000 in
set_option maxRecDepth 100000 in
theorem mX7_append (l : Launch) (dC : Nat → ClassId) (dI : Nat → Nat → Nat) (cI : ClassId) (o q0 q1 : Nat) (f x M : Nat → Int32) (h : Int64) (v : Int32) (hR : RW f 0) (hM3 : IN (M 3) 60) : Met l yX7_append (ws_ yX7_append cX7_append 2 (some .int)) rmX7_append (pcM (dC, dI) [(cI, .int)] (mW cI o q0 q1 f x M h) [.ref o, .int v]) (va_Qi (fun (r9 : Int32) (u9 : (Nat → Int32) × (Nat → Int32)) => (r9, u9) = fX7_append x M v) (fun u9 t => va_P (dC, dI) vwCl ((fun (v9 : (Nat → Int32) × (Nat → Int32)) => mW cI o q0 q1 f v9.1 v9.2 h) u9) t.heap) (adr (mW cI o q0 q1 f x M h))) 0 0 (adr (mW cI o q0 q1 f x M h)) := by
  refine Met.ofW (cc := cX7_append) (maxL := 2) (ret := (some .int)) (by decide) rfl ?_
  intro p e s m args below meth c s₁ B hml hv
  obtain ⟨ha, hP, hK, hn, hD0⟩ := hv
  have hx := B.exec
  have hb := B.bytes
  have hr := B.returns
  have hts0 := atoms_spec (ws := (ws_ yX7_append cX7_append 2 (some .int))) B.pre
  have hts : ∀ w ∈ lw_all, w.before args s = true := fun w h => hts0 w (List.mem_cons_of_mem _ h)
  have hown : s.vm.findClass RX7 = some m.cls := findClass_of_methodNamed B.named
  have hlocks := B.notSynchronized
  have htX7 : ∀ w ∈ wsX70, w.before args s = true := fun w h => hts w (wX7 w h)
  have hD := adr_self hD0
  obtain ⟨A, hA⟩ : ∃ A, A = adr (mW cI o q0 q1 f x M h) := ⟨_, rfl⟩
  rw [← hA] at hD
  have hS : va_S A s.heap s.heap [] := va_S.rf
  obtain ⟨Q, hQ⟩ : ∃ Q, Q = MQ below (va_Qi (fun (r9 : Int32) (u9 : (Nat → Int32) × (Nat → Int32)) => (r9, u9) = fX7_append x M v) (fun u9 t => va_P (dC, dI) vwCl ((fun (v9 : (Nat → Int32) × (Nat → Int32)) => mW cI o q0 q1 f v9.1 v9.2 h) u9) t.heap) (adr (mW cI o q0 q1 f x M h))) args s 0 0 (adr (mW cI o q0 q1 f x M h)) := ⟨_, rfl⟩
  rw [← hQ]
  rw [← hA] at hQ
  have hl := lv_entry ([.ref o, .int v]) (n := 2) (Nat.le_of_ble_eq_true rfl)
  rw [ha, lg_entry_eq, ← ha]
  generalize (lg_sl ([.ref o, .int v]) ++ List.replicate (2 - (lg_sl ([.ref o, .int v])).length) Slot.unset).toArray = ls at hl ⊢
  have hl : lv_has ls 2 [(0, .ref o), (1, .int v)] := hl
  show W p l e rmX7_append s m args below meth c s.heap [] 0 0 Q (F0 m 0 ls [])
  have hF : fX7_append x M v = fX7_append x M v := rfl
  refine lv_aload_n hx hb dX7_append_0 rfl (lv_at hl 0 rfl) ?_
  refine lv_iload_n hx hb dX7_append_1 rfl (lv_at hl 1 rfl) ?_
  refine lv_bipush (v := 33) hx hb dX7_append_2 (by decide) ?_
  refine lv_bipush (v := 126) hx hb dX7_append_4 (by decide) ?_
  refine k_callb (W.runS (As := [.int v, .int 33, .int 126]) (rest := [.ref o]) ⟨hx, hb, hml, hown, hts0⟩ (mX7_in l dC dI  v 33 126) (va_cwS 3 hts0 (gi_S u_905 u_906 u_7 u_907) rfl rfl rfl (by decide +kernel) ⟨Nat.le_of_ble_eq_true rfl, Nat.le_of_ble_eq_true rfl⟩) (pcR_S (hP.sub (ws' := []) [] rfl) (hK.sub (tys' := []) [] rfl) hn) rfl rfl hl.1 rfl (lv_room (Nat.le_of_ble_eq_true rfl)) dX7_append_6 ⟨Nat.zero_le _, Nat.zero_le _⟩) (fun br6 => ?_)
  have K9 : ∀ (v9_0 : Nat), v9_0 = (if (fX7_in v 33 126) = 0 then 1 else (if (M 3) = 60 then 2 else 0)) → ∀ (H : Heap) (locs : List Loc), va_P (dC, dI) vwCl (mW cI o q0 q1 f x M h) H → va_D A (mW cI o q0 q1 f x M h) → va_S A s.heap H locs → ∀ (ls : Array Slot), lv_has ls 2 [(0, .ref o), (1, .int v)] → W p l e rmX7_append s m args below meth c H locs 0 0 Q (F0 m 30 ls [.int (nI v9_0), .ref o]) := by
    intro v9_0 hz9 H locs hP hD hS ls hl
    have hz := hz9
    have hF := bd_at hF hz
    refine k_muti (Wd := (fun (v9 : (Nat → Int32)) => mW cI o q0 q1 f x v9 h)) (va_runV (As := [.int (nI v9_0)]) (rest := []) ⟨hx, hb, hml, hown, hts0⟩ (mX7_holds l dC dI cI o q0 q1 f x M h (nI v9_0)) (cwV 1 hts0 (gi_V u_908 u_910 us_15 u_7 u_911) rfl rfl rfl (by decide +kernel) ⟨Nat.le_of_ble_eq_true rfl, Nat.le_of_ble_eq_true rfl⟩) (pcM_V (ci := 5) (q0 := 0) hP hK hn hD rfl rfl) rfl rfl hl.1 rfl (lv_room (Nat.le_of_ble_eq_true rfl)) dX7_append_30 ⟨Nat.zero_le _, Nat.zero_le _⟩) hP hD hS [0, 1, 2] rfl rfl (fun _ => rfl) (fun r30 U30 H locs hU30 hP hD hS => ?_)
    obtain ⟨hU30, br30⟩ := hU30
    have hP : va_P (dC, dI) vwCl (mW cI o q0 q1 f x U30 h) H := hP
    have hD : va_D A (mW cI o q0 q1 f x U30 h) := hD
    have hF := bd2_at hF hU30
    refine lv_if_ne (tgt := 38) hx hb dX7_append_33 (by decide) (fun c_33 => ?_) (fun c_33 => ?_)
    · have hF := hF.trans (if_neg c_33)
      have hv0 := holds_ok hU30 c_33
      rw [hz9] at hv0
      have k1 : ¬ (fX7_in v 33 126) = 0 := fun z => by rw [if_pos z] at hv0; exact absurd hv0 (by decide)
      have k2 : ¬ (M 3) = 60 := fun z => by rw [if_neg k1, if_pos z] at hv0; exact absurd hv0 (by decide)
      have e3 : U30 3 = M 3 := holds_M hU30 (by decide)
      have hm3 : U30 3 = nI (U30 3).toNatClampNeg := by rw [e3]; exact hM3.e (by decide)
      have hl3 : (U30 3).toNatClampNeg < 60 := by rw [e3]; exact in_lt hM3 (by decide) k2
      refine lv_aload_n hx hb dX7_append_38 rfl (lv_at hl 0 rfl) ?_
      refine va_get (D := (dC, dI)) (ci := 5) (v := .ref q1) (C := RX7) (T := TX7) (N := 12) hx hb htX7 (fun _ h => h) hown hK hP 0 rfl rfl 4 (by decide) (hts _ u_861) (fun _ h9 => h9) rfl dX7_append_39 ?_
      refine lv_aload_n hx hb dX7_append_42 rfl (lv_at hl 0 rfl) ?_
      refine va_get (D := (dC, dI)) (ci := 5) (v := .int (U30 3)) (C := RX7) (T := TX7) (N := 12) hx hb htX7 (fun _ h => h) hown hK hP 0 rfl rfl 5 (by decide) (hts _ u_862) (fun _ h9 => h9) rfl dX7_append_43 ?_
      refine lv_tope (y := (nI (U30 3).toNatClampNeg)) hm3 ?_
      refine lv_iload_n hx hb dX7_append_46 rfl (lv_at hl 1 rfl) ?_
      refine va_iast hx hb hK hP hD hS 2 0 rfl rfl (vp_in_nI (n := (U30 3).toNatClampNeg) (by omega) (by decide)) dX7_append_47 (fun H locs hP hD hS => ?_)
      rw [show ((nI (U30 3).toNatClampNeg) : Int32).toNatClampNeg = (U30 3).toNatClampNeg from nI_clamp (n := (U30 3).toNatClampNeg) (by omega)] at hP hD
      have hP : va_P (dC, dI) vwCl (mW cI o q0 q1 f (upd x ((U30 3).toNatClampNeg) v) U30 h) H := hP
      have hD : va_D A (mW cI o q0 q1 f (upd x ((U30 3).toNatClampNeg) v) U30 h) := hD
      refine lv_aload_n hx hb dX7_append_48 rfl (lv_at hl 0 rfl) ?_
      refine lv_dup hx hb dX7_append_49 rfl ?_
      refine va_get (D := (dC, dI)) (ci := 5) (v := .int (U30 3)) (C := RX7) (T := TX7) (N := 12) hx hb htX7 (fun _ h => h) hown hK hP 0 rfl rfl 5 (by decide) (hts _ u_862) (fun _ h9 => h9) rfl dX7_append_50 ?_
      refine lv_iconst (v := 1) hx hb dX7_append_53 (by decide) ?_
      refine lv_iadd hx hb dX7_append_54 ?_
      refine va_put (D := (dC, dI)) (ci := 5) (v := .int ((U30 3) + 1)) (ty := .int) (C := RX7) (T := TX7) (N := 12) hx hb htX7 (fun _ h => h) tyX7 tyX7_ok nmX7 hown hK hP hD hS 0 rfl rfl 5 (by decide) (hts _ u_862) (fun _ h9 => h9) rfl (by decide +kernel) rfl rfl (Nat.le_of_ble_eq_true rfl) dX7_append_55 (fun H locs hP hD hS => ?_)
      have hP : va_P (dC, dI) vwCl (mW cI o q0 q1 f (upd x ((U30 3).toNatClampNeg) v) (upd U30 3 ((U30 3) + 1)) h) H := hP
      have hD : va_D A (mW cI o q0 q1 f (upd x ((U30 3).toNatClampNeg) v) (upd U30 3 ((U30 3) + 1)) h) := hD
      refine lv_aload_n hx hb dX7_append_58 rfl (lv_at hl 0 rfl) ?_
      refine va_get (D := (dC, dI)) (ci := 5) (v := .int ((U30 3) + 1)) (C := RX7) (T := TX7) (N := 12) hx hb htX7 (fun _ h => h) hown hK hP 0 rfl rfl 5 (by decide) (hts _ u_862) (fun _ h9 => h9) rfl dX7_append_59 ?_
      rw [hQ]
      exact W.iret (v := ((U30 3) + 1)) hx hb hr (fun t ht hW => ⟨⟨((U30 3) + 1), ((upd x ((U30 3).toNatClampNeg) v), (upd U30 3 ((U30 3) + 1))), rfl, hF.symm, toH ht hP⟩, hS.F ht⟩) hS.2.2 dX7_append_62
    have hF := hF.trans (if_pos c_33)
    refine lv_iconst (v := 0) hx hb dX7_append_36 (by decide) ?_
    rw [hQ]
    exact W.iret (v := 0) hx hb hr (fun t ht hW => ⟨⟨0, (x, U30), rfl, hF.symm, toH ht hP⟩, hS.F ht⟩) hS.2.2 dX7_append_37
  have hF : ((if (fX7_in v 33 126) = 0 then 1 else (if (M 3) = 60 then 2 else 0)) : Nat) = (if (fX7_in v 33 126) = 0 then 1 else (if (M 3) = 60 then 2 else 0)) := rfl
  refine lv_if_ne (tgt := 16) hx hb dX7_append_9 (by decide) (fun c_9 => ?_) (fun c_9 => ?_)
  · have hF := hF.trans (if_neg c_9)
    refine lv_aload_n hx hb dX7_append_16 rfl (lv_at hl 0 rfl) ?_
    refine va_get (D := (dC, dI)) (ci := 5) (v := .int (M 3)) (C := RX7) (T := TX7) (N := 12) hx hb htX7 (fun _ h => h) hown hK hP 0 rfl rfl 5 (by decide) (hts _ u_862) (fun _ h9 => h9) rfl dX7_append_17 ?_
    refine lv_bipush (v := 60) hx hb dX7_append_20 (by decide) ?_
    refine lv_icmp_ne (tgt := 29) hx hb dX7_append_22 (by decide) (fun c_22 => ?_) (fun c_22 => ?_)
    · have hF := hF.trans (if_neg c_22)
      refine lv_iconst (v := 0) hx hb dX7_append_29 (by decide) ?_
      exact K9 _ hF.symm _ _ hP hD hS  ls (lv_sub hl [0, 1] rfl)
    have hF := hF.trans (if_pos c_22)
    refine lv_iconst (v := 2) hx hb dX7_append_25 (by decide) ?_
    refine lv_goto (tgt := 30) hx hb dX7_append_26 (by decide) ?_
    exact K9 _ hF.symm _ _ hP hD hS  ls (lv_sub hl [0, 1] rfl)
  have hF := hF.trans (if_pos c_9)
  refine lv_iconst (v := 1) hx hb dX7_append_12 (by decide) ?_
  refine lv_goto (tgt := 30) hx hb dX7_append_13 (by decide) ?_
  exact K9 _ hF.symm _ _ hP hD hS  ls (lv_sub hl [0, 1] rfl)

def fX7_clearBuffer (M : Nat → Int32) : Int32 × ((Nat → Int32)) :=
  ((M 3), (upd (upd M 0 0) 3 0))
abbrev rmX7_clearBuffer : Room := { frames := 0, cells := 0, slots := 0, locals := 0 }
set_option maxHeartbeats 4000000 in
set_option maxRecDepth 100000 in
theorem mX7_clearBuffer (l : Launch) (dC : Nat → ClassId) (dI : Nat → Nat → Nat) (cI : ClassId) (o q0 q1 : Nat) (f x M : Nat → Int32) (h : Int64) (hR : RW f 0) : Met l yX7_clearBuffer (ws_ yX7_clearBuffer cX7_clearBuffer 2 (some .int)) rmX7_clearBuffer (pcM (dC, dI) [(cI, .int)] (mW cI o q0 q1 f x M h) [.ref o]) (va_Qi (fun (r9 : Int32) (u9 : (Nat → Int32)) => (r9, u9) = fX7_clearBuffer M) (fun u9 t => va_P (dC, dI) vwCl ((fun (v9 : (Nat → Int32)) => mW cI o q0 q1 f x v9 h) u9) t.heap) (adr (mW cI o q0 q1 f x M h))) 0 0 (adr (mW cI o q0 q1 f x M h)) := by
  refine Met.ofW (cc := cX7_clearBuffer) (maxL := 2) (ret := (some .int)) (by decide) rfl ?_
  intro p e s m args below meth c s₁ B hml hv
  obtain ⟨ha, hP, hK, hn, hD0⟩ := hv
  have hx := B.exec
  have hb := B.bytes
  have hr := B.returns
  have hts0 := atoms_spec (ws := (ws_ yX7_clearBuffer cX7_clearBuffer 2 (some .int))) B.pre
  have hts : ∀ w ∈ lw_all, w.before args s = true := fun w h => hts0 w (List.mem_cons_of_mem _ h)
  have hown : s.vm.findClass RX7 = some m.cls := findClass_of_methodNamed B.named
  have hlocks := B.notSynchronized
  have htX7 : ∀ w ∈ wsX70, w.before args s = true := fun w h => hts w (wX7 w h)
  have hD := adr_self hD0
  obtain ⟨A, hA⟩ : ∃ A, A = adr (mW cI o q0 q1 f x M h) := ⟨_, rfl⟩
  rw [← hA] at hD
  have hS : va_S A s.heap s.heap [] := va_S.rf
  obtain ⟨Q, hQ⟩ : ∃ Q, Q = MQ below (va_Qi (fun (r9 : Int32) (u9 : (Nat → Int32)) => (r9, u9) = fX7_clearBuffer M) (fun u9 t => va_P (dC, dI) vwCl ((fun (v9 : (Nat → Int32)) => mW cI o q0 q1 f x v9 h) u9) t.heap) (adr (mW cI o q0 q1 f x M h))) args s 0 0 (adr (mW cI o q0 q1 f x M h)) := ⟨_, rfl⟩
  rw [← hQ]
  rw [← hA] at hQ
  have hl := lv_entry ([.ref o]) (n := 2) (Nat.le_of_ble_eq_true rfl)
  rw [ha, lg_entry_eq, ← ha]
  generalize (lg_sl ([.ref o]) ++ List.replicate (2 - (lg_sl ([.ref o])).length) Slot.unset).toArray = ls at hl ⊢
  have hl : lv_has ls 2 [(0, .ref o)] := hl
  show W p l e rmX7_clearBuffer s m args below meth c s.heap [] 0 0 Q (F0 m 0 ls [])
  have hF : fX7_clearBuffer M = fX7_clearBuffer M := rfl
  refine lv_aload_n hx hb dX7_clearBuffer_0 rfl (lv_at hl 0 rfl) ?_
  refine lv_iconst (v := 0) hx hb dX7_clearBuffer_1 (by decide) ?_
  refine va_put (D := (dC, dI)) (ci := 5) (v := .int 0) (ty := .int) (C := RX7) (T := TX7) (N := 12) hx hb htX7 (fun _ h => h) tyX7 tyX7_ok nmX7 hown hK hP hD hS 0 rfl rfl 0 (by decide) (hts _ u_857) (fun _ h9 => h9) rfl (by decide +kernel) rfl rfl (Nat.le_of_ble_eq_true rfl) dX7_clearBuffer_2 (fun H locs hP hD hS => ?_)
  have hP : va_P (dC, dI) vwCl (mW cI o q0 q1 f x (upd M 0 0) h) H := hP
  have hD : va_D A (mW cI o q0 q1 f x (upd M 0 0) h) := hD
  refine lv_aload_n hx hb dX7_clearBuffer_5 rfl (lv_at hl 0 rfl) ?_
  refine va_get (D := (dC, dI)) (ci := 5) (v := .int (M 3)) (C := RX7) (T := TX7) (N := 12) hx hb htX7 (fun _ h => h) hown hK hP 0 rfl rfl 5 (by decide) (hts _ u_862) (fun _ h9 => h9) rfl dX7_clearBuffer_6 ?_
  refine lv_istore_n (lv' := [(1, .int (M 3)), (0, .ref o)]) hx hb dX7_clearBuffer_9 rfl hl (by decide) rfl (fun ls hl => ?_)
  refine lv_aload_n hx hb dX7_clearBuffer_10 rfl (lv_at hl 1 rfl) ?_
  refine lv_iconst (v := 0) hx hb dX7_clearBuffer_11 (by decide) ?_
  refine va_put (D := (dC, dI)) (ci := 5) (v := .int 0) (ty := .int) (C := RX7) (T := TX7) (N := 12) hx hb htX7 (fun _ h => h) tyX7 tyX7_ok nmX7 hown hK hP hD hS 0 rfl rfl 5 (by decide) (hts _ u_862) (fun _ h9 => h9) rfl (by decide +kernel) rfl rfl (Nat.le_of_ble_eq_true rfl) dX7_clearBuffer_12 (fun H locs hP hD hS => ?_)
  have hP : va_P (dC, dI) vwCl (mW cI o q0 q1 f x (upd (upd M 0 0) 3 0) h) H := hP
  have hD : va_D A (mW cI o q0 q1 f x (upd (upd M 0 0) 3 0) h) := hD
  refine lv_iload_n hx hb dX7_clearBuffer_15 rfl (lv_at hl 0 rfl) ?_
  rw [hQ]
  exact W.iret (v := (M 3)) hx hb hr (fun t ht hW => ⟨⟨(M 3), (upd (upd M 0 0) 3 0), rfl, hF.symm, toH ht hP⟩, hS.F ht⟩) hS.2.2 dX7_clearBuffer_16

def fX7_undo (f : Nat → Int32) (M : Nat → Int32) : Int32 × ((Nat → Int32) × (Nat → Int32)) :=
  (bd ((if (M 1) ≤ 0 then 1 else 0) : Nat) (fun v5_0 => (bd2 (fX7_holds M (nI v5_0)) (fun r13 U13 => (if r13 = 0 then (0, (f, U13)) else (bd (fX7_copies f ((U13 1).toNatClampNeg) 0) (fun U27 => (((U13 1) - 1), (U27, (upd U13 1 ((U13 1) - 1)))))))))))
abbrev rmX7_undo : Room := { frames := 1, cells := 0, slots := 0, locals := 23 }
set_option maxHeartbeats 4000000 in
set_option maxRecDepth 100000 in
theorem mX7_undo (l : Launch) (dC : Nat → ClassId) (dI : Nat → Nat → Nat) (cI : ClassId) (o q0 q1 : Nat) (f x M : Nat → Int32) (h : Int64) (hR : RW f 0) (m1 : Nat) (hm1 : m1 ≤ 6) (em1 : M 1 = nI m1) : Met l yX7_undo (ws_ yX7_undo cX7_undo 1 (some .int)) rmX7_undo (pcM (dC, dI) [(cI, .int)] (mW cI o q0 q1 f x M h) [.ref o]) (va_Qi (fun (r9 : Int32) (u9 : (Nat → Int32) × (Nat → Int32)) => (r9, u9) = fX7_undo f M) (fun u9 t => va_P (dC, dI) vwCl ((fun (v9 : (Nat → Int32) × (Nat → Int32)) => mW cI o q0 q1 v9.1 x v9.2 h) u9) t.heap) (adr (mW cI o q0 q1 f x M h))) 0 0 (adr (mW cI o q0 q1 f x M h)) := by
  refine Met.ofW (cc := cX7_undo) (maxL := 1) (ret := (some .int)) (by decide) rfl ?_
  intro p e s m args below meth c s₁ B hml hv
  obtain ⟨ha, hP, hK, hn, hD0⟩ := hv
  have hx := B.exec
  have hb := B.bytes
  have hr := B.returns
  have hts0 := atoms_spec (ws := (ws_ yX7_undo cX7_undo 1 (some .int))) B.pre
  have hts : ∀ w ∈ lw_all, w.before args s = true := fun w h => hts0 w (List.mem_cons_of_mem _ h)
  have hown : s.vm.findClass RX7 = some m.cls := findClass_of_methodNamed B.named
  have hlocks := B.notSynchronized
  have htX7 : ∀ w ∈ wsX70, w.before args s = true := fun w h => hts w (wX7 w h)
  have hD := adr_self hD0
  obtain ⟨A, hA⟩ : ∃ A, A = adr (mW cI o q0 q1 f x M h) := ⟨_, rfl⟩
  rw [← hA] at hD
  have hS : va_S A s.heap s.heap [] := va_S.rf
  obtain ⟨Q, hQ⟩ : ∃ Q, Q = MQ below (va_Qi (fun (r9 : Int32) (u9 : (Nat → Int32) × (Nat → Int32)) => (r9, u9) = fX7_undo f M) (fun u9 t => va_P (dC, dI) vwCl ((fun (v9 : (Nat → Int32) × (Nat → Int32)) => mW cI o q0 q1 v9.1 x v9.2 h) u9) t.heap) (adr (mW cI o q0 q1 f x M h))) args s 0 0 (adr (mW cI o q0 q1 f x M h)) := ⟨_, rfl⟩
  rw [← hQ]
  rw [← hA] at hQ
  have hl := lv_entry ([.ref o]) (n := 1) (Nat.le_of_ble_eq_true rfl)
  rw [ha, lg_entry_eq, ← ha]
  generalize (lg_sl ([.ref o]) ++ List.replicate (1 - (lg_sl ([.ref o])).length) Slot.unset).toArray = ls at hl ⊢
  have hl : lv_has ls 1 [(0, .ref o)] := hl
  show W p l e rmX7_undo s m args below meth c s.heap [] 0 0 Q (F0 m 0 ls [])
  have hF : fX7_undo f M = fX7_undo f M := rfl
  refine lv_aload_n hx hb dX7_undo_0 rfl (lv_at hl 0 rfl) ?_
  refine lv_aload_n hx hb dX7_undo_1 rfl (lv_at hl 0 rfl) ?_
  refine va_get (D := (dC, dI)) (ci := 5) (v := .int (M 1)) (C := RX7) (T := TX7) (N := 12) hx hb htX7 (fun _ h => h) hown hK hP 0 rfl rfl 2 (by decide) (hts _ u_859) (fun _ h9 => h9) rfl dX7_undo_2 ?_
  have K5 : ∀ (v5_0 : Nat), v5_0 = (if (M 1) ≤ 0 then 1 else 0) → ∀ (H : Heap) (locs : List Loc), va_P (dC, dI) vwCl (mW cI o q0 q1 f x M h) H → va_D A (mW cI o q0 q1 f x M h) → va_S A s.heap H locs → ∀ (ls : Array Slot), lv_has ls 1 [(0, .ref o)] → W p l e rmX7_undo s m args below meth c H locs 0 0 Q (F0 m 13 ls [.int (nI v5_0), .ref o]) := by
    intro v5_0 hz5 H locs hP hD hS ls hl
    have hz := hz5
    have bz5 : (nI v5_0 : Int32) = 0 ∨ nI v5_0 = 1 := by rw [hz]; (repeat' split); all_goals first | exact Or.inl rfl | exact Or.inr rfl
    have hF := bd_at hF hz
    refine k_muti (Wd := (fun (v9 : (Nat → Int32)) => mW cI o q0 q1 f x v9 h)) (va_runV (As := [.int (nI v5_0)]) (rest := []) ⟨hx, hb, hml, hown, hts0⟩ (mX7_holds l dC dI cI o q0 q1 f x M h (nI v5_0)) (cwV 1 hts0 (gi_V u_908 u_910 us_15 u_7 u_911) rfl rfl rfl (by decide +kernel) ⟨Nat.le_of_ble_eq_true rfl, Nat.le_of_ble_eq_true rfl⟩) (pcM_V (ci := 5) (q0 := 0) hP hK hn hD rfl rfl) rfl rfl hl.1 rfl (lv_room (Nat.le_of_ble_eq_true rfl)) dX7_undo_13 ⟨Nat.zero_le _, Nat.zero_le _⟩) hP hD hS [0, 1, 2] rfl rfl (fun _ => rfl) (fun r13 U13 H locs hU13 hP hD hS => ?_)
    obtain ⟨hU13, br13⟩ := hU13
    have hP : va_P (dC, dI) vwCl (mW cI o q0 q1 f x U13 h) H := hP
    have hD : va_D A (mW cI o q0 q1 f x U13 h) := hD
    have hF := bd2_at hF hU13
    refine lv_if_ne (tgt := 21) hx hb dX7_undo_16 (by decide) (fun c_16 => ?_) (fun c_16 => ?_)
    · have hF := hF.trans (if_neg c_16)
      have e1 : U13 1 = nI m1 := (holds_M hU13 (by decide)).trans em1
      have hs1 : U13 1 = nI (U13 1).toNatClampNeg := by rw [e1, nI_clamp (by omega)]
      have hs6 : (U13 1).toNatClampNeg ≤ 6 := by rw [e1, nI_clamp (by omega)]; exact hm1
      refine lv_aload_n hx hb dX7_undo_21 rfl (lv_at hl 0 rfl) ?_
      refine lv_aload_n hx hb dX7_undo_22 rfl (lv_at hl 0 rfl) ?_
      refine va_get (D := (dC, dI)) (ci := 5) (v := .int (U13 1)) (C := RX7) (T := TX7) (N := 12) hx hb htX7 (fun _ h => h) hown hK hP 0 rfl rfl 2 (by decide) (hts _ u_859) (fun _ h9 => h9) rfl dX7_undo_23 ?_
      refine lv_tope (y := (nI (U13 1).toNatClampNeg)) hs1 ?_
      refine lv_iconst (v := 0) hx hb dX7_undo_26 (by decide) ?_
      refine k_mutv (Wd := (fun (v9 : (Nat → Int32)) => mW cI o q0 q1 v9 x U13 h)) (va_runV (As := [.int (nI (U13 1).toNatClampNeg), .int 0]) (rest := []) ⟨hx, hb, hml, hown, hts0⟩ (mX7_copies l dC dI cI o q0 q1 f x U13 h ((U13 1).toNatClampNeg) 0 (by first | omega | assumption) (by first | omega | assumption)) (cwV 2 hts0 (gi_V u_916 u_918 us_17 u_7 u_919) rfl rfl rfl (by decide +kernel) ⟨Nat.le_of_ble_eq_true rfl, Nat.le_of_ble_eq_true rfl⟩) (pcM_V (ci := 5) (q0 := 0) hP hK hn hD rfl rfl) rfl rfl hl.1 rfl (lv_room (Nat.le_of_ble_eq_true rfl)) dX7_undo_27 ⟨Nat.zero_le _, Nat.zero_le _⟩) hP hD hS [0, 1, 2] rfl rfl (fun _ => rfl) (fun U27 H locs hU27 hP hD hS => ?_)
      have hP : va_P (dC, dI) vwCl (mW cI o q0 q1 U27 x U13 h) H := hP
      have hD : va_D A (mW cI o q0 q1 U27 x U13 h) := hD
      have hF := bd_at hF hU27
      refine lv_aload_n hx hb dX7_undo_30 rfl (lv_at hl 0 rfl) ?_
      refine lv_dup hx hb dX7_undo_31 rfl ?_
      refine va_get (D := (dC, dI)) (ci := 5) (v := .int (U13 1)) (C := RX7) (T := TX7) (N := 12) hx hb htX7 (fun _ h => h) hown hK hP 0 rfl rfl 2 (by decide) (hts _ u_859) (fun _ h9 => h9) rfl dX7_undo_32 ?_
      refine lv_iconst (v := 1) hx hb dX7_undo_35 (by decide) ?_
      refine lv_isub hx hb dX7_undo_36 ?_
      refine va_put (D := (dC, dI)) (ci := 5) (v := .int ((U13 1) - 1)) (ty := .int) (C := RX7) (T := TX7) (N := 12) hx hb htX7 (fun _ h => h) tyX7 tyX7_ok nmX7 hown hK hP hD hS 0 rfl rfl 2 (by decide) (hts _ u_859) (fun _ h9 => h9) rfl (by decide +kernel) rfl rfl (Nat.le_of_ble_eq_true rfl) dX7_undo_37 (fun H locs hP hD hS => ?_)
      have hP : va_P (dC, dI) vwCl (mW cI o q0 q1 U27 x (upd U13 1 ((U13 1) - 1)) h) H := hP
      have hD : va_D A (mW cI o q0 q1 U27 x (upd U13 1 ((U13 1) - 1)) h) := hD
      refine lv_aload_n hx hb dX7_undo_40 rfl (lv_at hl 0 rfl) ?_
      refine va_get (D := (dC, dI)) (ci := 5) (v := .int ((U13 1) - 1)) (C := RX7) (T := TX7) (N := 12) hx hb htX7 (fun _ h => h) hown hK hP 0 rfl rfl 2 (by decide) (hts _ u_859) (fun _ h9 => h9) rfl dX7_undo_41 ?_
      rw [hQ]
      exact W.iret (v := ((U13 1) - 1)) hx hb hr (fun t ht hW => ⟨⟨((U13 1) - 1), (U27, (upd U13 1 ((U13 1) - 1))), rfl, hF.symm, toH ht hP⟩, hS.F ht⟩) hS.2.2 dX7_undo_44
    have hF := hF.trans (if_pos c_16)
    refine lv_iconst (v := 0) hx hb dX7_undo_19 (by decide) ?_
    rw [hQ]
    exact W.iret (v := 0) hx hb hr (fun t ht hW => ⟨⟨0, (f, U13), rfl, hF.symm, toH ht hP⟩, hS.F ht⟩) hS.2.2 dX7_undo_20
  have hF : ((if (M 1) ≤ 0 then 1 else 0) : Nat) = (if (M 1) ≤ 0 then 1 else 0) := rfl
  refine lv_if_le (tgt := 12) hx hb dX7_undo_5 (by decide) (fun c_5 => ?_) (fun c_5 => ?_)
  · have hF := hF.trans (if_pos c_5)
    refine lv_iconst (v := 1) hx hb dX7_undo_12 (by decide) ?_
    exact K5 _ hF.symm _ _ hP hD hS  ls (lv_sub hl [0] rfl)
  have hF := hF.trans (if_neg c_5)
  refine lv_iconst (v := 0) hx hb dX7_undo_8 (by decide) ?_
  refine lv_goto (tgt := 13) hx hb dX7_undo_9 (by decide) ?_
  exact K5 _ hF.symm _ _ hP hD hS  ls (lv_sub hl [0] rfl)

def fX7_keep (f : Nat → Int32) (M : Nat → Int32) : Int32 × ((Nat → Int32) × (Nat → Int32)) :=
  (bd (fX7_copies f 0 7) (fun U9 => ((U9 3), (U9, (upd (upd M 0 0) 2 1)))))
abbrev rmX7_keep : Room := { frames := 1, cells := 0, slots := 0, locals := 23 }
set_option maxHeartbeats 4000000 in
set_option maxRecDepth 100000 in
theorem mX7_keep (l : Launch) (dC : Nat → ClassId) (dI : Nat → Nat → Nat) (cI : ClassId) (o q0 q1 : Nat) (f x M : Nat → Int32) (h : Int64) (hR : RW f 0) : Met l yX7_keep (ws_ yX7_keep cX7_keep 1 (some .int)) rmX7_keep (pcM (dC, dI) [(cI, .int)] (mW cI o q0 q1 f x M h) [.ref o]) (va_Qi (fun (r9 : Int32) (u9 : (Nat → Int32) × (Nat → Int32)) => (r9, u9) = fX7_keep f M) (fun u9 t => va_P (dC, dI) vwCl ((fun (v9 : (Nat → Int32) × (Nat → Int32)) => mW cI o q0 q1 v9.1 x v9.2 h) u9) t.heap) (adr (mW cI o q0 q1 f x M h))) 0 0 (adr (mW cI o q0 q1 f x M h)) := by
  refine Met.ofW (cc := cX7_keep) (maxL := 1) (ret := (some .int)) (by decide) rfl ?_
  intro p e s m args below meth c s₁ B hml hv
  obtain ⟨ha, hP, hK, hn, hD0⟩ := hv
  have hx := B.exec
  have hb := B.bytes
  have hr := B.returns
  have hts0 := atoms_spec (ws := (ws_ yX7_keep cX7_keep 1 (some .int))) B.pre
  have hts : ∀ w ∈ lw_all, w.before args s = true := fun w h => hts0 w (List.mem_cons_of_mem _ h)
  have hown : s.vm.findClass RX7 = some m.cls := findClass_of_methodNamed B.named
  have hlocks := B.notSynchronized
  have htX7 : ∀ w ∈ wsX70, w.before args s = true := fun w h => hts w (wX7 w h)
  have hD := adr_self hD0
  obtain ⟨A, hA⟩ : ∃ A, A = adr (mW cI o q0 q1 f x M h) := ⟨_, rfl⟩
  rw [← hA] at hD
  have hS : va_S A s.heap s.heap [] := va_S.rf
  obtain ⟨Q, hQ⟩ : ∃ Q, Q = MQ below (va_Qi (fun (r9 : Int32) (u9 : (Nat → Int32) × (Nat → Int32)) => (r9, u9) = fX7_keep f M) (fun u9 t => va_P (dC, dI) vwCl ((fun (v9 : (Nat → Int32) × (Nat → Int32)) => mW cI o q0 q1 v9.1 x v9.2 h) u9) t.heap) (adr (mW cI o q0 q1 f x M h))) args s 0 0 (adr (mW cI o q0 q1 f x M h)) := ⟨_, rfl⟩
  rw [← hQ]
  rw [← hA] at hQ
  have hl := lv_entry ([.ref o]) (n := 1) (Nat.le_of_ble_eq_true rfl)
  rw [ha, lg_entry_eq, ← ha]
  generalize (lg_sl ([.ref o]) ++ List.replicate (1 - (lg_sl ([.ref o])).length) Slot.unset).toArray = ls at hl ⊢
  have hl : lv_has ls 1 [(0, .ref o)] := hl
  show W p l e rmX7_keep s m args below meth c s.heap [] 0 0 Q (F0 m 0 ls [])
  have hF : fX7_keep f M = fX7_keep f M := rfl
  refine lv_aload_n hx hb dX7_keep_0 rfl (lv_at hl 0 rfl) ?_
  refine lv_iconst (v := 0) hx hb dX7_keep_1 (by decide) ?_
  refine va_put (D := (dC, dI)) (ci := 5) (v := .int 0) (ty := .int) (C := RX7) (T := TX7) (N := 12) hx hb htX7 (fun _ h => h) tyX7 tyX7_ok nmX7 hown hK hP hD hS 0 rfl rfl 0 (by decide) (hts _ u_857) (fun _ h9 => h9) rfl (by decide +kernel) rfl rfl (Nat.le_of_ble_eq_true rfl) dX7_keep_2 (fun H locs hP hD hS => ?_)
  have hP : va_P (dC, dI) vwCl (mW cI o q0 q1 f x (upd M 0 0) h) H := hP
  have hD : va_D A (mW cI o q0 q1 f x (upd M 0 0) h) := hD
  refine lv_aload_n hx hb dX7_keep_5 rfl (lv_at hl 0 rfl) ?_
  refine lv_iconst (v := 0) hx hb dX7_keep_6 (by decide) ?_
  refine lv_bipush (v := 7) hx hb dX7_keep_7 (by decide) ?_
  refine k_mutv (Wd := (fun (v9 : (Nat → Int32)) => mW cI o q0 q1 v9 x (upd M 0 0) h)) (va_runV (As := [.int 0, .int 7]) (rest := []) ⟨hx, hb, hml, hown, hts0⟩ (mX7_copies l dC dI cI o q0 q1 f x (upd M 0 0) h 0 7 (by first | omega | assumption) (by first | omega | assumption)) (cwV 2 hts0 (gi_V u_916 u_918 us_17 u_7 u_919) rfl rfl rfl (by decide +kernel) ⟨Nat.le_of_ble_eq_true rfl, Nat.le_of_ble_eq_true rfl⟩) (pcM_V (ci := 5) (q0 := 0) hP hK hn hD rfl rfl) rfl rfl hl.1 rfl (lv_room (Nat.le_of_ble_eq_true rfl)) dX7_keep_9 ⟨Nat.zero_le _, Nat.zero_le _⟩) hP hD hS [0, 1, 2] rfl rfl (fun _ => rfl) (fun U9 H locs hU9 hP hD hS => ?_)
  have hP : va_P (dC, dI) vwCl (mW cI o q0 q1 U9 x (upd M 0 0) h) H := hP
  have hD : va_D A (mW cI o q0 q1 U9 x (upd M 0 0) h) := hD
  have hF := bd_at hF hU9
  refine lv_aload_n hx hb dX7_keep_12 rfl (lv_at hl 0 rfl) ?_
  refine lv_iconst (v := 1) hx hb dX7_keep_13 (by decide) ?_
  refine va_put (D := (dC, dI)) (ci := 5) (v := .int 1) (ty := .boolean) (C := RX7) (T := TX7) (N := 12) hx hb htX7 (fun _ h => h) tyX7 tyX7_ok nmX7 hown hK hP hD hS 0 rfl rfl 3 (by decide) (hts _ u_860) (fun _ h9 => h9) rfl (by decide +kernel) rfl rfl (Nat.le_of_ble_eq_true rfl) dX7_keep_14 (fun H locs hP hD hS => ?_)
  have hP : va_P (dC, dI) vwCl (mW cI o q0 q1 U9 x (upd (upd M 0 0) 2 1) h) H := hP
  have hD : va_D A (mW cI o q0 q1 U9 x (upd (upd M 0 0) 2 1) h) := hD
  refine lv_aload_n hx hb dX7_keep_17 rfl (lv_at hl 0 rfl) ?_
  refine va_get (D := (dC, dI)) (ci := 5) (v := .ref q0) (C := RX7) (T := TX7) (N := 12) hx hb htX7 (fun _ h => h) hown hK hP 0 rfl rfl 1 (by decide) (hts _ u_858) (fun _ h9 => h9) rfl dX7_keep_18 ?_
  refine lv_iconst (v := 3) hx hb dX7_keep_21 (by decide) ?_
  refine va_iald hx hb hK hP 1 0 rfl rfl (vp_in_nI (n := 3) (by omega) (by decide)) dX7_keep_22 ?_
  refine lv_tope (y := (U9 3)) (at_nI (k := 3) (by omega)) ?_
  rw [hQ]
  exact W.iret (v := (U9 3)) hx hb hr (fun t ht hW => ⟨⟨(U9 3), (U9, (upd (upd M 0 0) 2 1)), rfl, hF.symm, toH ht hP⟩, hS.F ht⟩) hS.2.2 dX7_keep_23

def fX7_restore (f : Nat → Int32) (M : Nat → Int32) : Int32 × ((Nat → Int32) × (Nat → Int32)) :=
  (bd ((if (M 2) = 0 then 1 else 0) : Nat) (fun v5_0 => (bd2 (fX7_holds M (nI v5_0)) (fun r13 U13 => (if r13 = 0 then (0, (f, U13)) else (bd (fX7_save f U13) (fun U22 => (bd (fX7_copies U22.1 7 0) (fun U29 => ((U29 3), (U29, U22.2)))))))))))
abbrev rmX7_restore : Room := { frames := 2, cells := 0, slots := 0, locals := 44 }
set_option maxHeartbeats 4000000 in
set_option maxRecDepth 100000 in
theorem mX7_restore (l : Launch) (dC : Nat → ClassId) (dI : Nat → Nat → Nat) (cI : ClassId) (o q0 q1 : Nat) (f x M : Nat → Int32) (h : Int64) (hR : RW f 0) (m1 : Nat) (hm1 : m1 ≤ 6) (em1 : M 1 = nI m1) : Met l yX7_restore (ws_ yX7_restore cX7_restore 1 (some .int)) rmX7_restore (pcM (dC, dI) [(cI, .int)] (mW cI o q0 q1 f x M h) [.ref o]) (va_Qi (fun (r9 : Int32) (u9 : (Nat → Int32) × (Nat → Int32)) => (r9, u9) = fX7_restore f M) (fun u9 t => va_P (dC, dI) vwCl ((fun (v9 : (Nat → Int32) × (Nat → Int32)) => mW cI o q0 q1 v9.1 x v9.2 h) u9) t.heap) (adr (mW cI o q0 q1 f x M h))) 0 0 (adr (mW cI o q0 q1 f x M h)) := by
  refine Met.ofW (cc := cX7_restore) (maxL := 1) (ret := (some .int)) (by decide) rfl ?_
  intro p e s m args below meth c s₁ B hml hv
  obtain ⟨ha, hP, hK, hn, hD0⟩ := hv
  have hx := B.exec
  have hb := B.bytes
  have hr := B.returns
  have hts0 := atoms_spec (ws := (ws_ yX7_restore cX7_restore 1 (some .int))) B.pre
  have hts : ∀ w ∈ lw_all, w.before args s = true := fun w h => hts0 w (List.mem_cons_of_mem _ h)
  have hown : s.vm.findClass RX7 = some m.cls := findClass_of_methodNamed B.named
  have hlocks := B.notSynchronized
  have htX7 : ∀ w ∈ wsX70, w.before args s = true := fun w h => hts w (wX7 w h)
  have hD := adr_self hD0
  obtain ⟨A, hA⟩ : ∃ A, A = adr (mW cI o q0 q1 f x M h) := ⟨_, rfl⟩
  rw [← hA] at hD
  have hS : va_S A s.heap s.heap [] := va_S.rf
  obtain ⟨Q, hQ⟩ : ∃ Q, Q = MQ below (va_Qi (fun (r9 : Int32) (u9 : (Nat → Int32) × (Nat → Int32)) => (r9, u9) = fX7_restore f M) (fun u9 t => va_P (dC, dI) vwCl ((fun (v9 : (Nat → Int32) × (Nat → Int32)) => mW cI o q0 q1 v9.1 x v9.2 h) u9) t.heap) (adr (mW cI o q0 q1 f x M h))) args s 0 0 (adr (mW cI o q0 q1 f x M h)) := ⟨_, rfl⟩
  rw [← hQ]
  rw [← hA] at hQ
  have hl := lv_entry ([.ref o]) (n := 1) (Nat.le_of_ble_eq_true rfl)
  rw [ha, lg_entry_eq, ← ha]
  generalize (lg_sl ([.ref o]) ++ List.replicate (1 - (lg_sl ([.ref o])).length) Slot.unset).toArray = ls at hl ⊢
  have hl : lv_has ls 1 [(0, .ref o)] := hl
  show W p l e rmX7_restore s m args below meth c s.heap [] 0 0 Q (F0 m 0 ls [])
  have hF : fX7_restore f M = fX7_restore f M := rfl
  refine lv_aload_n hx hb dX7_restore_0 rfl (lv_at hl 0 rfl) ?_
  refine lv_aload_n hx hb dX7_restore_1 rfl (lv_at hl 0 rfl) ?_
  refine va_get (D := (dC, dI)) (ci := 5) (v := .int (M 2)) (C := RX7) (T := TX7) (N := 12) hx hb htX7 (fun _ h => h) hown hK hP 0 rfl rfl 3 (by decide) (hts _ u_860) (fun _ h9 => h9) rfl dX7_restore_2 ?_
  have K5 : ∀ (v5_0 : Nat), v5_0 = (if (M 2) = 0 then 1 else 0) → ∀ (H : Heap) (locs : List Loc), va_P (dC, dI) vwCl (mW cI o q0 q1 f x M h) H → va_D A (mW cI o q0 q1 f x M h) → va_S A s.heap H locs → ∀ (ls : Array Slot), lv_has ls 1 [(0, .ref o)] → W p l e rmX7_restore s m args below meth c H locs 0 0 Q (F0 m 13 ls [.int (nI v5_0), .ref o]) := by
    intro v5_0 hz5 H locs hP hD hS ls hl
    have hz := hz5
    have bz5 : (nI v5_0 : Int32) = 0 ∨ nI v5_0 = 1 := by rw [hz]; (repeat' split); all_goals first | exact Or.inl rfl | exact Or.inr rfl
    have hF := bd_at hF hz
    refine k_muti (Wd := (fun (v9 : (Nat → Int32)) => mW cI o q0 q1 f x v9 h)) (va_runV (As := [.int (nI v5_0)]) (rest := []) ⟨hx, hb, hml, hown, hts0⟩ (mX7_holds l dC dI cI o q0 q1 f x M h (nI v5_0)) (cwV 1 hts0 (gi_V u_908 u_910 us_15 u_7 u_911) rfl rfl rfl (by decide +kernel) ⟨Nat.le_of_ble_eq_true rfl, Nat.le_of_ble_eq_true rfl⟩) (pcM_V (ci := 5) (q0 := 0) hP hK hn hD rfl rfl) rfl rfl hl.1 rfl (lv_room (Nat.le_of_ble_eq_true rfl)) dX7_restore_13 ⟨Nat.zero_le _, Nat.zero_le _⟩) hP hD hS [0, 1, 2] rfl rfl (fun _ => rfl) (fun r13 U13 H locs hU13 hP hD hS => ?_)
    obtain ⟨hU13, br13⟩ := hU13
    have hP : va_P (dC, dI) vwCl (mW cI o q0 q1 f x U13 h) H := hP
    have hD : va_D A (mW cI o q0 q1 f x U13 h) := hD
    have hF := bd2_at hF hU13
    refine lv_if_ne (tgt := 21) hx hb dX7_restore_16 (by decide) (fun c_16 => ?_) (fun c_16 => ?_)
    · have hF := hF.trans (if_neg c_16)
      have em2 : U13 1 = nI m1 := (holds_M hU13 (by decide)).trans em1
      refine lv_aload_n hx hb dX7_restore_21 rfl (lv_at hl 0 rfl) ?_
      refine k_mutv (Wd := (fun (v9 : (Nat → Int32) × (Nat → Int32)) => mW cI o q0 q1 v9.1 x v9.2 h)) (va_runV (As := []) (rest := []) ⟨hx, hb, hml, hown, hts0⟩ (mX7_save l dC dI cI o q0 q1 f x U13 h  m1 hm1 em2) (cwV 0 hts0 (gi_V u_912 u_914 us_16 u_7 u_915) rfl rfl rfl (by decide +kernel) ⟨Nat.le_of_ble_eq_true rfl, Nat.le_of_ble_eq_true rfl⟩) (pcM_V (ci := 5) (q0 := 0) hP hK hn hD rfl rfl) rfl rfl hl.1 rfl (lv_room (Nat.le_of_ble_eq_true rfl)) dX7_restore_22 ⟨Nat.zero_le _, Nat.zero_le _⟩) hP hD hS [0, 1, 2] rfl rfl (fun _ => rfl) (fun U22 H locs hU22 hP hD hS => ?_)
      have hP : va_P (dC, dI) vwCl (mW cI o q0 q1 U22.1 x U22.2 h) H := hP
      have hD : va_D A (mW cI o q0 q1 U22.1 x U22.2 h) := hD
      have hF := bd_at hF hU22
      have hR2 : RW U22.1 0 := by rw [hU22]; exact RW_save hm1 em2 hR
      obtain ⟨-, rG20, rT20, rF20, rS20, -, -⟩ := id hR2
      have hg2 : U22.1 0 = nI (U22.1 0).toNatClampNeg := rG20.e (by decide)
      have rg2 : (U22.1 0).toNatClampNeg ≤ 16 := rG20.c (by decide)
      have ht2 : U22.1 1 = nI (U22.1 1).toNatClampNeg := rT20.e (by decide)
      have rt2 : (U22.1 1).toNatClampNeg ≤ 4 := rT20.c (by decide)
      refine lv_aload_n hx hb dX7_restore_25 rfl (lv_at hl 0 rfl) ?_
      refine lv_bipush (v := 7) hx hb dX7_restore_26 (by decide) ?_
      refine lv_iconst (v := 0) hx hb dX7_restore_28 (by decide) ?_
      refine k_mutv (Wd := (fun (v9 : (Nat → Int32)) => mW cI o q0 q1 v9 x U22.2 h)) (va_runV (As := [.int 7, .int 0]) (rest := []) ⟨hx, hb, hml, hown, hts0⟩ (mX7_copies l dC dI cI o q0 q1 U22.1 x U22.2 h 7 0 (by first | omega | assumption) (by first | omega | assumption)) (cwV 2 hts0 (gi_V u_916 u_918 us_17 u_7 u_919) rfl rfl rfl (by decide +kernel) ⟨Nat.le_of_ble_eq_true rfl, Nat.le_of_ble_eq_true rfl⟩) (pcM_V (ci := 5) (q0 := 0) hP hK hn hD rfl rfl) rfl rfl hl.1 rfl (lv_room (Nat.le_of_ble_eq_true rfl)) dX7_restore_29 ⟨Nat.zero_le _, Nat.zero_le _⟩) hP hD hS [0, 1, 2] rfl rfl (fun _ => rfl) (fun U29 H locs hU29 hP hD hS => ?_)
      have hP : va_P (dC, dI) vwCl (mW cI o q0 q1 U29 x U22.2 h) H := hP
      have hD : va_D A (mW cI o q0 q1 U29 x U22.2 h) := hD
      have hF := bd_at hF hU29
      refine lv_aload_n hx hb dX7_restore_32 rfl (lv_at hl 0 rfl) ?_
      refine va_get (D := (dC, dI)) (ci := 5) (v := .ref q0) (C := RX7) (T := TX7) (N := 12) hx hb htX7 (fun _ h => h) hown hK hP 0 rfl rfl 1 (by decide) (hts _ u_858) (fun _ h9 => h9) rfl dX7_restore_33 ?_
      refine lv_iconst (v := 3) hx hb dX7_restore_36 (by decide) ?_
      refine va_iald hx hb hK hP 1 0 rfl rfl (vp_in_nI (n := 3) (by omega) (by decide)) dX7_restore_37 ?_
      refine lv_tope (y := (U29 3)) (at_nI (k := 3) (by omega)) ?_
      rw [hQ]
      exact W.iret (v := (U29 3)) hx hb hr (fun t ht hW => ⟨⟨(U29 3), (U29, U22.2), rfl, hF.symm, toH ht hP⟩, hS.F ht⟩) hS.2.2 dX7_restore_38
    have hF := hF.trans (if_pos c_16)
    refine lv_iconst (v := 0) hx hb dX7_restore_19 (by decide) ?_
    rw [hQ]
    exact W.iret (v := 0) hx hb hr (fun t ht hW => ⟨⟨0, (f, U13), rfl, hF.symm, toH ht hP⟩, hS.F ht⟩) hS.2.2 dX7_restore_20
  have hF : ((if (M 2) = 0 then 1 else 0) : Nat) = (if (M 2) = 0 then 1 else 0) := rfl
  refine lv_if_eq (tgt := 12) hx hb dX7_restore_5 (by decide) (fun c_5 => ?_) (fun c_5 => ?_)
  · have hF := hF.trans (if_pos c_5)
    refine lv_iconst (v := 1) hx hb dX7_restore_12 (by decide) ?_
    exact K5 _ hF.symm _ _ hP hD hS  ls (lv_sub hl [0] rfl)
  have hF := hF.trans (if_neg c_5)
  refine lv_iconst (v := 0) hx hb dX7_restore_8 (by decide) ?_
  refine lv_goto (tgt := 13) hx hb dX7_restore_9 (by decide) ?_
  exact K5 _ hF.symm _ _ hP hD hS  ls (lv_sub hl [0] rfl)

def fX7_told (f : Nat → Int32) (M : Nat → Int32) (tb : Int32) (i : Int32) : Int32 × ((Nat → Int32)) :=
  (bd ((if (fX7_isTable f tb) = 0 then 1 else (if 0 ≤ i then 0 else 2)) : Nat) (fun v6_0 => (bd2 (fX7_holds M (nI v6_0)) (fun r22 U22 => (if r22 = 0 then (0, U22) else ((fX7_character f tb.toNatClampNeg i), U22))))))
abbrev rmX7_told : Room := { frames := 3, cells := 0, slots := 0, locals := 72 }
set_option maxHeartbeats 4000000 in
set_option maxRecDepth 100000 in
theorem mX7_told (l : Launch) (dC : Nat → ClassId) (dI : Nat → Nat → Nat) (cI : ClassId) (o q0 q1 : Nat) (f x M : Nat → Int32) (h : Int64) (tb : Int32) (i : Int32) (hR : RW f 0) : Met l yX7_told (ws_ yX7_told cX7_told 3 (some .int)) rmX7_told (pcM (dC, dI) [(cI, .int)] (mW cI o q0 q1 f x M h) [.ref o, .int tb, .int i]) (va_Qi (fun (r9 : Int32) (u9 : (Nat → Int32)) => (r9, u9) = fX7_told f M tb i) (fun u9 t => va_P (dC, dI) vwCl ((fun (v9 : (Nat → Int32)) => mW cI o q0 q1 f x v9 h) u9) t.heap) (adr (mW cI o q0 q1 f x M h))) 0 0 (adr (mW cI o q0 q1 f x M h)) := by
  refine Met.ofW (cc := cX7_told) (maxL := 3) (ret := (some .int)) (by decide) rfl ?_
  intro p e s m args below meth c s₁ B hml hv
  obtain ⟨ha, hP, hK, hn, hD0⟩ := hv
  have hx := B.exec
  have hb := B.bytes
  have hr := B.returns
  have hts0 := atoms_spec (ws := (ws_ yX7_told cX7_told 3 (some .int))) B.pre
  have hts : ∀ w ∈ lw_all, w.before args s = true := fun w h => hts0 w (List.mem_cons_of_mem _ h)
  have hown : s.vm.findClass RX7 = some m.cls := findClass_of_methodNamed B.named
  have hlocks := B.notSynchronized
  have hD := adr_self hD0
  obtain ⟨A, hA⟩ : ∃ A, A = adr (mW cI o q0 q1 f x M h) := ⟨_, rfl⟩
  rw [← hA] at hD
  have hS : va_S A s.heap s.heap [] := va_S.rf
  obtain ⟨Q, hQ⟩ : ∃ Q, Q = MQ below (va_Qi (fun (r9 : Int32) (u9 : (Nat → Int32)) => (r9, u9) = fX7_told f M tb i) (fun u9 t => va_P (dC, dI) vwCl ((fun (v9 : (Nat → Int32)) => mW cI o q0 q1 f x v9 h) u9) t.heap) (adr (mW cI o q0 q1 f x M h))) args s 0 0 (adr (mW cI o q0 q1 f x M h)) := ⟨_, rfl⟩
  rw [← hQ]
  rw [← hA] at hQ
  have hl := lv_entry ([.ref o, .int tb, .int i]) (n := 3) (Nat.le_of_ble_eq_true rfl)
  rw [ha, lg_entry_eq, ← ha]
  generalize (lg_sl ([.ref o, .int tb, .int i]) ++ List.replicate (3 - (lg_sl ([.ref o, .int tb, .int i])).length) Slot.unset).toArray = ls at hl ⊢
  have hl : lv_has ls 3 [(0, .ref o), (1, .int tb), (2, .int i)] := hl
  show W p l e rmX7_told s m args below meth c s.heap [] 0 0 Q (F0 m 0 ls [])
  have hF : fX7_told f M tb i = fX7_told f M tb i := rfl
  refine lv_aload_n hx hb dX7_told_0 rfl (lv_at hl 0 rfl) ?_
  refine lv_aload_n hx hb dX7_told_1 rfl (lv_at hl 0 rfl) ?_
  refine lv_iload_n hx hb dX7_told_2 rfl (lv_at hl 1 rfl) ?_
  refine k_callb (W.runV (As := [.int tb]) (rest := [.ref o]) ⟨hx, hb, hml, hown, hts0⟩ (mX7_isTable l dC dI cI o q0 q1 f x M h tb) (cwV 1 hts0 (gi_V u_985 u_987 us_26 u_7 u_988) rfl rfl rfl (by decide +kernel) ⟨Nat.le_of_ble_eq_true rfl, Nat.le_of_ble_eq_true rfl⟩) (pcR_V (ci := 5) (q0 := 0) hP hK hn rfl rfl) rfl rfl hl.1 rfl (lv_room (Nat.le_of_ble_eq_true rfl)) dX7_told_3 ⟨Nat.zero_le _, Nat.zero_le _⟩) (fun br3 => ?_)
  have K6 : ∀ (v6_0 : Nat), v6_0 = (if (fX7_isTable f tb) = 0 then 1 else (if 0 ≤ i then 0 else 2)) → ∀ (H : Heap) (locs : List Loc), va_P (dC, dI) vwCl (mW cI o q0 q1 f x M h) H → va_D A (mW cI o q0 q1 f x M h) → va_S A s.heap H locs → ∀ (ls : Array Slot), lv_has ls 3 [(0, .ref o), (1, .int tb), (2, .int i)] → W p l e rmX7_told s m args below meth c H locs 0 0 Q (F0 m 22 ls [.int (nI v6_0), .ref o]) := by
    intro v6_0 hz6 H locs hP hD hS ls hl
    have hz := hz6
    have hF := bd_at hF hz
    refine k_muti (Wd := (fun (v9 : (Nat → Int32)) => mW cI o q0 q1 f x v9 h)) (va_runV (As := [.int (nI v6_0)]) (rest := []) ⟨hx, hb, hml, hown, hts0⟩ (mX7_holds l dC dI cI o q0 q1 f x M h (nI v6_0)) (cwV 1 hts0 (gi_V u_908 u_910 us_15 u_7 u_911) rfl rfl rfl (by decide +kernel) ⟨Nat.le_of_ble_eq_true rfl, Nat.le_of_ble_eq_true rfl⟩) (pcM_V (ci := 5) (q0 := 0) hP hK hn hD rfl rfl) rfl rfl hl.1 rfl (lv_room (Nat.le_of_ble_eq_true rfl)) dX7_told_22 ⟨Nat.zero_le _, Nat.zero_le _⟩) hP hD hS [0, 1, 2] rfl rfl (fun _ => rfl) (fun r22 U22 H locs hU22 hP hD hS => ?_)
    obtain ⟨hU22, br22⟩ := hU22
    have hP : va_P (dC, dI) vwCl (mW cI o q0 q1 f x U22 h) H := hP
    have hD : va_D A (mW cI o q0 q1 f x U22 h) := hD
    have hF := bd2_at hF hU22
    refine lv_if_eq (tgt := 37) hx hb dX7_told_25 (by decide) (fun c_25 => ?_) (fun c_25 => ?_)
    · have hF := hF.trans (if_pos c_25)
      refine lv_iconst (v := 0) hx hb dX7_told_37 (by decide) ?_
      rw [hQ]
      exact W.iret (v := 0) hx hb hr (fun t ht hW => ⟨⟨0, U22, rfl, hF.symm, toH ht hP⟩, hS.F ht⟩) hS.2.2 dX7_told_38
    have hF := hF.trans (if_neg c_25)
    have hv0 := holds_ok hU22 c_25
    rw [hz6] at hv0
    have k2 : ¬ (fX7_isTable f tb) = 0 := fun z => by rw [if_pos z] at hv0; exact absurd hv0 (by decide)
    obtain ⟨htn, htl, htb⟩ := in_nat (v := tb) (x := f 1) (n := 4) hR.2.2.1 (by decide) k2
    refine lv_aload_n hx hb dX7_told_28 rfl (lv_at hl 0 rfl) ?_
    refine lv_iload_n hx hb dX7_told_29 rfl (lv_at hl 1 rfl) ?_
    refine lv_tope (y := (nI tb.toNatClampNeg)) htn ?_
    refine lv_iload_n hx hb dX7_told_30 rfl (lv_at hl 2 rfl) ?_
    refine k_calli (W.runV (As := [.int (nI tb.toNatClampNeg), .int i]) (rest := []) ⟨hx, hb, hml, hown, hts0⟩ (mX7_character l dC dI cI o q0 q1 f x U22 h tb.toNatClampNeg i (by first | omega | assumption) (by first | omega | assumption)) (cwV 2 hts0 (gi_V u_1092 u_1094 us_44 u_7 u_1095) rfl rfl rfl (by decide +kernel) ⟨Nat.le_of_ble_eq_true rfl, Nat.le_of_ble_eq_true rfl⟩) (pcR_V (ci := 5) (q0 := 0) hP hK hn rfl rfl) rfl rfl hl.1 rfl (lv_room (Nat.le_of_ble_eq_true rfl)) dX7_told_31 ⟨Nat.zero_le _, Nat.zero_le _⟩) ?_
    refine lv_goto (tgt := 38) hx hb dX7_told_34 (by decide) ?_
    rw [hQ]
    exact W.iret (v := (fX7_character f tb.toNatClampNeg i)) hx hb hr (fun t ht hW => ⟨⟨(fX7_character f tb.toNatClampNeg i), U22, rfl, hF.symm, toH ht hP⟩, hS.F ht⟩) hS.2.2 dX7_told_38
  have hF : ((if (fX7_isTable f tb) = 0 then 1 else (if 0 ≤ i then 0 else 2)) : Nat) = (if (fX7_isTable f tb) = 0 then 1 else (if 0 ≤ i then 0 else 2)) := rfl
  refine lv_if_ne (tgt := 13) hx hb dX7_told_6 (by decide) (fun c_6 => ?_) (fun c_6 => ?_)
  · have hF := hF.trans (if_neg c_6)
    refine lv_iload_n hx hb dX7_told_13 rfl (lv_at hl 2 rfl) ?_
    refine lv_if_ge (tgt := 21) hx hb dX7_told_14 (by decide) (fun c_14 => ?_) (fun c_14 => ?_)
    · have hF := hF.trans (if_pos c_14)
      refine lv_iconst (v := 0) hx hb dX7_told_21 (by decide) ?_
      exact K6 _ hF.symm _ _ hP hD hS  ls (lv_sub hl [0, 1, 2] rfl)
    have hF := hF.trans (if_neg c_14)
    refine lv_iconst (v := 2) hx hb dX7_told_17 (by decide) ?_
    refine lv_goto (tgt := 22) hx hb dX7_told_18 (by decide) ?_
    exact K6 _ hF.symm _ _ hP hD hS  ls (lv_sub hl [0, 1, 2] rfl)
  have hF := hF.trans (if_pos c_6)
  refine lv_iconst (v := 1) hx hb dX7_told_9 (by decide) ?_
  refine lv_goto (tgt := 22) hx hb dX7_told_10 (by decide) ?_
  exact K6 _ hF.symm _ _ hP hD hS  ls (lv_sub hl [0, 1, 2] rfl)

def fX7_guestOf (f : Nat → Int32) (M : Nat → Int32) (v : Int32) (a : Int32) : Int32 × ((Nat → Int32)) :=
  (bd ((if (fX7_isGuest f v) = 0 then 1 else (if (fX7_in a 0 6) = 0 then 2 else 0)) : Nat) (fun v6_0 => (bd2 (fX7_holds M (nI v6_0)) (fun r28 U28 => (if r28 = 0 then (0, U28) else ((fX7_ofGuest f v.toNatClampNeg a.toNatClampNeg), U28))))))
abbrev rmX7_guestOf : Room := { frames := 4, cells := 0, slots := 0, locals := 94 }
set_option maxHeartbeats 4000000 in
set_option maxRecDepth 100000 in
theorem mX7_guestOf (l : Launch) (dC : Nat → ClassId) (dI : Nat → Nat → Nat) (cI : ClassId) (o q0 q1 : Nat) (f x M : Nat → Int32) (h : Int64) (v : Int32) (a : Int32) (hR : RW f 0) : Met l yX7_guestOf (ws_ yX7_guestOf cX7_guestOf 3 (some .int)) rmX7_guestOf (pcM (dC, dI) [(cI, .int)] (mW cI o q0 q1 f x M h) [.ref o, .int v, .int a]) (va_Qi (fun (r9 : Int32) (u9 : (Nat → Int32)) => (r9, u9) = fX7_guestOf f M v a) (fun u9 t => va_P (dC, dI) vwCl ((fun (v9 : (Nat → Int32)) => mW cI o q0 q1 f x v9 h) u9) t.heap) (adr (mW cI o q0 q1 f x M h))) 0 0 (adr (mW cI o q0 q1 f x M h)) := by
  refine Met.ofW (cc := cX7_guestOf) (maxL := 3) (ret := (some .int)) (by decide) rfl ?_
  intro p e s m args below meth c s₁ B hml hv
  obtain ⟨ha, hP, hK, hn, hD0⟩ := hv
  have hx := B.exec
  have hb := B.bytes
  have hr := B.returns
  have hts0 := atoms_spec (ws := (ws_ yX7_guestOf cX7_guestOf 3 (some .int))) B.pre
  have hts : ∀ w ∈ lw_all, w.before args s = true := fun w h => hts0 w (List.mem_cons_of_mem _ h)
  have hown : s.vm.findClass RX7 = some m.cls := findClass_of_methodNamed B.named
  have hlocks := B.notSynchronized
  have hD := adr_self hD0
  obtain ⟨A, hA⟩ : ∃ A, A = adr (mW cI o q0 q1 f x M h) := ⟨_, rfl⟩
  rw [← hA] at hD
  have hS : va_S A s.heap s.heap [] := va_S.rf
  obtain ⟨Q, hQ⟩ : ∃ Q, Q = MQ below (va_Qi (fun (r9 : Int32) (u9 : (Nat → Int32)) => (r9, u9) = fX7_guestOf f M v a) (fun u9 t => va_P (dC, dI) vwCl ((fun (v9 : (Nat → Int32)) => mW cI o q0 q1 f x v9 h) u9) t.heap) (adr (mW cI o q0 q1 f x M h))) args s 0 0 (adr (mW cI o q0 q1 f x M h)) := ⟨_, rfl⟩
  rw [← hQ]
  rw [← hA] at hQ
  have hl := lv_entry ([.ref o, .int v, .int a]) (n := 3) (Nat.le_of_ble_eq_true rfl)
  rw [ha, lg_entry_eq, ← ha]
  generalize (lg_sl ([.ref o, .int v, .int a]) ++ List.replicate (3 - (lg_sl ([.ref o, .int v, .int a])).length) Slot.unset).toArray = ls at hl ⊢
  have hl : lv_has ls 3 [(0, .ref o), (1, .int v), (2, .int a)] := hl
  show W p l e rmX7_guestOf s m args below meth c s.heap [] 0 0 Q (F0 m 0 ls [])
  have hF : fX7_guestOf f M v a = fX7_guestOf f M v a := rfl
  refine lv_aload_n hx hb dX7_guestOf_0 rfl (lv_at hl 0 rfl) ?_
  refine lv_aload_n hx hb dX7_guestOf_1 rfl (lv_at hl 0 rfl) ?_
  refine lv_iload_n hx hb dX7_guestOf_2 rfl (lv_at hl 1 rfl) ?_
  refine k_callb (W.runV (As := [.int v]) (rest := [.ref o]) ⟨hx, hb, hml, hown, hts0⟩ (mX7_isGuest l dC dI cI o q0 q1 f x M h v) (cwV 1 hts0 (gi_V u_928 u_930 us_19 u_7 u_931) rfl rfl rfl (by decide +kernel) ⟨Nat.le_of_ble_eq_true rfl, Nat.le_of_ble_eq_true rfl⟩) (pcR_V (ci := 5) (q0 := 0) hP hK hn rfl rfl) rfl rfl hl.1 rfl (lv_room (Nat.le_of_ble_eq_true rfl)) dX7_guestOf_3 ⟨Nat.zero_le _, Nat.zero_le _⟩) (fun br3 => ?_)
  have K6 : ∀ (v6_0 : Nat), v6_0 = (if (fX7_isGuest f v) = 0 then 1 else (if (fX7_in a 0 6) = 0 then 2 else 0)) → ∀ (H : Heap) (locs : List Loc), va_P (dC, dI) vwCl (mW cI o q0 q1 f x M h) H → va_D A (mW cI o q0 q1 f x M h) → va_S A s.heap H locs → ∀ (ls : Array Slot), lv_has ls 3 [(0, .ref o), (1, .int v), (2, .int a)] → W p l e rmX7_guestOf s m args below meth c H locs 0 0 Q (F0 m 28 ls [.int (nI v6_0), .ref o]) := by
    intro v6_0 hz6 H locs hP hD hS ls hl
    have hz := hz6
    have hF := bd_at hF hz
    refine k_muti (Wd := (fun (v9 : (Nat → Int32)) => mW cI o q0 q1 f x v9 h)) (va_runV (As := [.int (nI v6_0)]) (rest := []) ⟨hx, hb, hml, hown, hts0⟩ (mX7_holds l dC dI cI o q0 q1 f x M h (nI v6_0)) (cwV 1 hts0 (gi_V u_908 u_910 us_15 u_7 u_911) rfl rfl rfl (by decide +kernel) ⟨Nat.le_of_ble_eq_true rfl, Nat.le_of_ble_eq_true rfl⟩) (pcM_V (ci := 5) (q0 := 0) hP hK hn hD rfl rfl) rfl rfl hl.1 rfl (lv_room (Nat.le_of_ble_eq_true rfl)) dX7_guestOf_28 ⟨Nat.zero_le _, Nat.zero_le _⟩) hP hD hS [0, 1, 2] rfl rfl (fun _ => rfl) (fun r28 U28 H locs hU28 hP hD hS => ?_)
    obtain ⟨hU28, br28⟩ := hU28
    have hP : va_P (dC, dI) vwCl (mW cI o q0 q1 f x U28 h) H := hP
    have hD : va_D A (mW cI o q0 q1 f x U28 h) := hD
    have hF := bd2_at hF hU28
    refine lv_if_eq (tgt := 43) hx hb dX7_guestOf_31 (by decide) (fun c_31 => ?_) (fun c_31 => ?_)
    · have hF := hF.trans (if_pos c_31)
      refine lv_iconst (v := 0) hx hb dX7_guestOf_43 (by decide) ?_
      rw [hQ]
      exact W.iret (v := 0) hx hb hr (fun t ht hW => ⟨⟨0, U28, rfl, hF.symm, toH ht hP⟩, hS.F ht⟩) hS.2.2 dX7_guestOf_44
    have hF := hF.trans (if_neg c_31)
    have hv0 := holds_ok hU28 c_31
    rw [hz6] at hv0
    have k2 : ¬ (fX7_isGuest f v) = 0 := fun z => by rw [if_pos z] at hv0; exact absurd hv0 (by decide)
    have k3 : ¬ (fX7_in a 0 6) = 0 := fun z => by rw [if_neg k2, if_pos z] at hv0; exact absurd hv0 (by decide)
    obtain ⟨hvn, hvl, hvb⟩ := in_nat (v := v) (x := f 0) (n := 16) hR.2.1 (by decide) k2
    obtain ⟨han, hal⟩ := in_le (v := a) (hi := 6) (by decide) k3
    refine lv_aload_n hx hb dX7_guestOf_34 rfl (lv_at hl 0 rfl) ?_
    refine lv_iload_n hx hb dX7_guestOf_35 rfl (lv_at hl 1 rfl) ?_
    refine lv_tope (y := (nI v.toNatClampNeg)) hvn ?_
    refine lv_iload_n hx hb dX7_guestOf_36 rfl (lv_at hl 2 rfl) ?_
    refine lv_tope (y := (nI a.toNatClampNeg)) han ?_
    refine k_calli (W.runV (As := [.int (nI v.toNatClampNeg), .int (nI a.toNatClampNeg)]) (rest := []) ⟨hx, hb, hml, hown, hts0⟩ (mX7_ofGuest l dC dI cI o q0 q1 f x U28 h v.toNatClampNeg a.toNatClampNeg (by first | omega | assumption) (by first | omega | assumption) (by first | omega | assumption)) (cwV 2 hts0 (gi_V u_1112 u_1114 us_45 u_7 u_1115) rfl rfl rfl (by decide +kernel) ⟨Nat.le_of_ble_eq_true rfl, Nat.le_of_ble_eq_true rfl⟩) (pcR_V (ci := 5) (q0 := 0) hP hK hn rfl rfl) rfl rfl hl.1 rfl (lv_room (Nat.le_of_ble_eq_true rfl)) dX7_guestOf_37 ⟨Nat.zero_le _, Nat.zero_le _⟩) ?_
    refine lv_goto (tgt := 44) hx hb dX7_guestOf_40 (by decide) ?_
    rw [hQ]
    exact W.iret (v := (fX7_ofGuest f v.toNatClampNeg a.toNatClampNeg)) hx hb hr (fun t ht hW => ⟨⟨(fX7_ofGuest f v.toNatClampNeg a.toNatClampNeg), U28, rfl, hF.symm, toH ht hP⟩, hS.F ht⟩) hS.2.2 dX7_guestOf_44
  have hF : ((if (fX7_isGuest f v) = 0 then 1 else (if (fX7_in a 0 6) = 0 then 2 else 0)) : Nat) = (if (fX7_isGuest f v) = 0 then 1 else (if (fX7_in a 0 6) = 0 then 2 else 0)) := rfl
  refine lv_if_ne (tgt := 13) hx hb dX7_guestOf_6 (by decide) (fun c_6 => ?_) (fun c_6 => ?_)
  · have hF := hF.trans (if_neg c_6)
    refine lv_iload_n hx hb dX7_guestOf_13 rfl (lv_at hl 2 rfl) ?_
    refine lv_iconst (v := 0) hx hb dX7_guestOf_14 (by decide) ?_
    refine lv_bipush (v := 6) hx hb dX7_guestOf_15 (by decide) ?_
    refine k_callb (W.runS (As := [.int a, .int 0, .int 6]) (rest := [.ref o]) ⟨hx, hb, hml, hown, hts0⟩ (mX7_in l dC dI  a 0 6) (va_cwS 3 hts0 (gi_S u_905 u_906 u_7 u_907) rfl rfl rfl (by decide +kernel) ⟨Nat.le_of_ble_eq_true rfl, Nat.le_of_ble_eq_true rfl⟩) (pcR_S (hP.sub (ws' := []) [] rfl) (hK.sub (tys' := []) [] rfl) hn) rfl rfl hl.1 rfl (lv_room (Nat.le_of_ble_eq_true rfl)) dX7_guestOf_17 ⟨Nat.zero_le _, Nat.zero_le _⟩) (fun br17 => ?_)
    refine lv_if_ne (tgt := 27) hx hb dX7_guestOf_20 (by decide) (fun c_20 => ?_) (fun c_20 => ?_)
    · have hF := hF.trans (if_neg c_20)
      refine lv_iconst (v := 0) hx hb dX7_guestOf_27 (by decide) ?_
      exact K6 _ hF.symm _ _ hP hD hS  ls (lv_sub hl [0, 1, 2] rfl)
    have hF := hF.trans (if_pos c_20)
    refine lv_iconst (v := 2) hx hb dX7_guestOf_23 (by decide) ?_
    refine lv_goto (tgt := 28) hx hb dX7_guestOf_24 (by decide) ?_
    exact K6 _ hF.symm _ _ hP hD hS  ls (lv_sub hl [0, 1, 2] rfl)
  have hF := hF.trans (if_pos c_6)
  refine lv_iconst (v := 1) hx hb dX7_guestOf_9 (by decide) ?_
  refine lv_goto (tgt := 28) hx hb dX7_guestOf_10 (by decide) ?_
  exact K6 _ hF.symm _ _ hP hD hS  ls (lv_sub hl [0, 1, 2] rfl)

def fX7_tableOf (f : Nat → Int32) (M : Nat → Int32) (tb : Int32) (a : Int32) : Int32 × ((Nat → Int32)) :=
  (bd ((if (fX7_isTable f tb) = 0 then 1 else (if (fX7_in a 0 4) = 0 then 2 else 0)) : Nat) (fun v6_0 => (bd2 (fX7_holds M (nI v6_0)) (fun r27 U27 => (if r27 = 0 then (0, U27) else ((fX7_ofTable f tb.toNatClampNeg a), U27))))))
abbrev rmX7_tableOf : Room := { frames := 5, cells := 0, slots := 0, locals := 123 }
set_option maxHeartbeats 4000000 in
set_option maxRecDepth 100000 in
theorem mX7_tableOf (l : Launch) (dC : Nat → ClassId) (dI : Nat → Nat → Nat) (cI : ClassId) (o q0 q1 : Nat) (f x M : Nat → Int32) (h : Int64) (tb : Int32) (a : Int32) (hR : RW f 0) : Met l yX7_tableOf (ws_ yX7_tableOf cX7_tableOf 3 (some .int)) rmX7_tableOf (pcM (dC, dI) [(cI, .int)] (mW cI o q0 q1 f x M h) [.ref o, .int tb, .int a]) (va_Qi (fun (r9 : Int32) (u9 : (Nat → Int32)) => (r9, u9) = fX7_tableOf f M tb a) (fun u9 t => va_P (dC, dI) vwCl ((fun (v9 : (Nat → Int32)) => mW cI o q0 q1 f x v9 h) u9) t.heap) (adr (mW cI o q0 q1 f x M h))) 0 0 (adr (mW cI o q0 q1 f x M h)) := by
  refine Met.ofW (cc := cX7_tableOf) (maxL := 3) (ret := (some .int)) (by decide) rfl ?_
  intro p e s m args below meth c s₁ B hml hv
  obtain ⟨ha, hP, hK, hn, hD0⟩ := hv
  have hx := B.exec
  have hb := B.bytes
  have hr := B.returns
  have hts0 := atoms_spec (ws := (ws_ yX7_tableOf cX7_tableOf 3 (some .int))) B.pre
  have hts : ∀ w ∈ lw_all, w.before args s = true := fun w h => hts0 w (List.mem_cons_of_mem _ h)
  have hown : s.vm.findClass RX7 = some m.cls := findClass_of_methodNamed B.named
  have hlocks := B.notSynchronized
  have hD := adr_self hD0
  obtain ⟨A, hA⟩ : ∃ A, A = adr (mW cI o q0 q1 f x M h) := ⟨_, rfl⟩
  rw [← hA] at hD
  have hS : va_S A s.heap s.heap [] := va_S.rf
  obtain ⟨Q, hQ⟩ : ∃ Q, Q = MQ below (va_Qi (fun (r9 : Int32) (u9 : (Nat → Int32)) => (r9, u9) = fX7_tableOf f M tb a) (fun u9 t => va_P (dC, dI) vwCl ((fun (v9 : (Nat → Int32)) => mW cI o q0 q1 f x v9 h) u9) t.heap) (adr (mW cI o q0 q1 f x M h))) args s 0 0 (adr (mW cI o q0 q1 f x M h)) := ⟨_, rfl⟩
  rw [← hQ]
  rw [← hA] at hQ
  have hl := lv_entry ([.ref o, .int tb, .int a]) (n := 3) (Nat.le_of_ble_eq_true rfl)
  rw [ha, lg_entry_eq, ← ha]
  generalize (lg_sl ([.ref o, .int tb, .int a]) ++ List.replicate (3 - (lg_sl ([.ref o, .int tb, .int a])).length) Slot.unset).toArray = ls at hl ⊢
  have hl : lv_has ls 3 [(0, .ref o), (1, .int tb), (2, .int a)] := hl
  show W p l e rmX7_tableOf s m args below meth c s.heap [] 0 0 Q (F0 m 0 ls [])
  have hF : fX7_tableOf f M tb a = fX7_tableOf f M tb a := rfl
  refine lv_aload_n hx hb dX7_tableOf_0 rfl (lv_at hl 0 rfl) ?_
  refine lv_aload_n hx hb dX7_tableOf_1 rfl (lv_at hl 0 rfl) ?_
  refine lv_iload_n hx hb dX7_tableOf_2 rfl (lv_at hl 1 rfl) ?_
  refine k_callb (W.runV (As := [.int tb]) (rest := [.ref o]) ⟨hx, hb, hml, hown, hts0⟩ (mX7_isTable l dC dI cI o q0 q1 f x M h tb) (cwV 1 hts0 (gi_V u_985 u_987 us_26 u_7 u_988) rfl rfl rfl (by decide +kernel) ⟨Nat.le_of_ble_eq_true rfl, Nat.le_of_ble_eq_true rfl⟩) (pcR_V (ci := 5) (q0 := 0) hP hK hn rfl rfl) rfl rfl hl.1 rfl (lv_room (Nat.le_of_ble_eq_true rfl)) dX7_tableOf_3 ⟨Nat.zero_le _, Nat.zero_le _⟩) (fun br3 => ?_)
  have K6 : ∀ (v6_0 : Nat), v6_0 = (if (fX7_isTable f tb) = 0 then 1 else (if (fX7_in a 0 4) = 0 then 2 else 0)) → ∀ (H : Heap) (locs : List Loc), va_P (dC, dI) vwCl (mW cI o q0 q1 f x M h) H → va_D A (mW cI o q0 q1 f x M h) → va_S A s.heap H locs → ∀ (ls : Array Slot), lv_has ls 3 [(0, .ref o), (1, .int tb), (2, .int a)] → W p l e rmX7_tableOf s m args below meth c H locs 0 0 Q (F0 m 27 ls [.int (nI v6_0), .ref o]) := by
    intro v6_0 hz6 H locs hP hD hS ls hl
    have hz := hz6
    have hF := bd_at hF hz
    refine k_muti (Wd := (fun (v9 : (Nat → Int32)) => mW cI o q0 q1 f x v9 h)) (va_runV (As := [.int (nI v6_0)]) (rest := []) ⟨hx, hb, hml, hown, hts0⟩ (mX7_holds l dC dI cI o q0 q1 f x M h (nI v6_0)) (cwV 1 hts0 (gi_V u_908 u_910 us_15 u_7 u_911) rfl rfl rfl (by decide +kernel) ⟨Nat.le_of_ble_eq_true rfl, Nat.le_of_ble_eq_true rfl⟩) (pcM_V (ci := 5) (q0 := 0) hP hK hn hD rfl rfl) rfl rfl hl.1 rfl (lv_room (Nat.le_of_ble_eq_true rfl)) dX7_tableOf_27 ⟨Nat.zero_le _, Nat.zero_le _⟩) hP hD hS [0, 1, 2] rfl rfl (fun _ => rfl) (fun r27 U27 H locs hU27 hP hD hS => ?_)
    obtain ⟨hU27, br27⟩ := hU27
    have hP : va_P (dC, dI) vwCl (mW cI o q0 q1 f x U27 h) H := hP
    have hD : va_D A (mW cI o q0 q1 f x U27 h) := hD
    have hF := bd2_at hF hU27
    refine lv_if_eq (tgt := 42) hx hb dX7_tableOf_30 (by decide) (fun c_30 => ?_) (fun c_30 => ?_)
    · have hF := hF.trans (if_pos c_30)
      refine lv_iconst (v := 0) hx hb dX7_tableOf_42 (by decide) ?_
      rw [hQ]
      exact W.iret (v := 0) hx hb hr (fun t ht hW => ⟨⟨0, U27, rfl, hF.symm, toH ht hP⟩, hS.F ht⟩) hS.2.2 dX7_tableOf_43
    have hF := hF.trans (if_neg c_30)
    have hv0 := holds_ok hU27 c_30
    rw [hz6] at hv0
    have k2 : ¬ (fX7_isTable f tb) = 0 := fun z => by rw [if_pos z] at hv0; exact absurd hv0 (by decide)
    obtain ⟨htn, htl, htb⟩ := in_nat (v := tb) (x := f 1) (n := 4) hR.2.2.1 (by decide) k2
    refine lv_aload_n hx hb dX7_tableOf_33 rfl (lv_at hl 0 rfl) ?_
    refine lv_iload_n hx hb dX7_tableOf_34 rfl (lv_at hl 1 rfl) ?_
    refine lv_tope (y := (nI tb.toNatClampNeg)) htn ?_
    refine lv_iload_n hx hb dX7_tableOf_35 rfl (lv_at hl 2 rfl) ?_
    refine k_calli (W.runV (As := [.int (nI tb.toNatClampNeg), .int a]) (rest := []) ⟨hx, hb, hml, hown, hts0⟩ (mX7_ofTable l dC dI cI o q0 q1 f x U27 h tb.toNatClampNeg a (by first | omega | assumption) (by first | omega | assumption)) (cwV 2 hts0 (gi_V u_1120 u_1122 us_46 u_7 u_1123) rfl rfl rfl (by decide +kernel) ⟨Nat.le_of_ble_eq_true rfl, Nat.le_of_ble_eq_true rfl⟩) (pcR_V (ci := 5) (q0 := 0) hP hK hn rfl rfl) rfl rfl hl.1 rfl (lv_room (Nat.le_of_ble_eq_true rfl)) dX7_tableOf_36 ⟨Nat.zero_le _, Nat.zero_le _⟩) ?_
    refine lv_goto (tgt := 43) hx hb dX7_tableOf_39 (by decide) ?_
    rw [hQ]
    exact W.iret (v := (fX7_ofTable f tb.toNatClampNeg a)) hx hb hr (fun t ht hW => ⟨⟨(fX7_ofTable f tb.toNatClampNeg a), U27, rfl, hF.symm, toH ht hP⟩, hS.F ht⟩) hS.2.2 dX7_tableOf_43
  have hF : ((if (fX7_isTable f tb) = 0 then 1 else (if (fX7_in a 0 4) = 0 then 2 else 0)) : Nat) = (if (fX7_isTable f tb) = 0 then 1 else (if (fX7_in a 0 4) = 0 then 2 else 0)) := rfl
  refine lv_if_ne (tgt := 13) hx hb dX7_tableOf_6 (by decide) (fun c_6 => ?_) (fun c_6 => ?_)
  · have hF := hF.trans (if_neg c_6)
    refine lv_iload_n hx hb dX7_tableOf_13 rfl (lv_at hl 2 rfl) ?_
    refine lv_iconst (v := 0) hx hb dX7_tableOf_14 (by decide) ?_
    refine lv_iconst (v := 4) hx hb dX7_tableOf_15 (by decide) ?_
    refine k_callb (W.runS (As := [.int a, .int 0, .int 4]) (rest := [.ref o]) ⟨hx, hb, hml, hown, hts0⟩ (mX7_in l dC dI  a 0 4) (va_cwS 3 hts0 (gi_S u_905 u_906 u_7 u_907) rfl rfl rfl (by decide +kernel) ⟨Nat.le_of_ble_eq_true rfl, Nat.le_of_ble_eq_true rfl⟩) (pcR_S (hP.sub (ws' := []) [] rfl) (hK.sub (tys' := []) [] rfl) hn) rfl rfl hl.1 rfl (lv_room (Nat.le_of_ble_eq_true rfl)) dX7_tableOf_16 ⟨Nat.zero_le _, Nat.zero_le _⟩) (fun br16 => ?_)
    refine lv_if_ne (tgt := 26) hx hb dX7_tableOf_19 (by decide) (fun c_19 => ?_) (fun c_19 => ?_)
    · have hF := hF.trans (if_neg c_19)
      refine lv_iconst (v := 0) hx hb dX7_tableOf_26 (by decide) ?_
      exact K6 _ hF.symm _ _ hP hD hS  ls (lv_sub hl [0, 1, 2] rfl)
    have hF := hF.trans (if_pos c_19)
    refine lv_iconst (v := 2) hx hb dX7_tableOf_22 (by decide) ?_
    refine lv_goto (tgt := 27) hx hb dX7_tableOf_23 (by decide) ?_
    exact K6 _ hF.symm _ _ hP hD hS  ls (lv_sub hl [0, 1, 2] rfl)
  have hF := hF.trans (if_pos c_6)
  refine lv_iconst (v := 1) hx hb dX7_tableOf_9 (by decide) ?_
  refine lv_goto (tgt := 27) hx hb dX7_tableOf_10 (by decide) ?_
  exact K6 _ hF.symm _ _ hP hD hS  ls (lv_sub hl [0, 1, 2] rfl)

def fX7_who (f : Nat → Int32) (M : Nat → Int32) (tb : Int32) (z : Int32) : Int32 × ((Nat → Int32)) :=
  (bd ((if (fX7_isSeat f tb z) = 0 then 1 else 0) : Nat) (fun v7_0 => (bd2 (fX7_holds M (nI v7_0)) (fun r15 U15 => (if r15 = 0 then (0, U15) else ((fX7_whoSits f 0 tb z), U15))))))
abbrev rmX7_who : Room := { frames := 3, cells := 0, slots := 0, locals := 65 }
set_option maxHeartbeats 4000000 in
set_option maxRecDepth 100000 in
theorem mX7_who (l : Launch) (dC : Nat → ClassId) (dI : Nat → Nat → Nat) (cI : ClassId) (o q0 q1 : Nat) (f x M : Nat → Int32) (h : Int64) (tb : Int32) (z : Int32) (hR : RW f 0) : Met l yX7_who (ws_ yX7_who cX7_who 3 (some .int)) rmX7_who (pcM (dC, dI) [(cI, .int)] (mW cI o q0 q1 f x M h) [.ref o, .int tb, .int z]) (va_Qi (fun (r9 : Int32) (u9 : (Nat → Int32)) => (r9, u9) = fX7_who f M tb z) (fun u9 t => va_P (dC, dI) vwCl ((fun (v9 : (Nat → Int32)) => mW cI o q0 q1 f x v9 h) u9) t.heap) (adr (mW cI o q0 q1 f x M h))) 0 0 (adr (mW cI o q0 q1 f x M h)) := by
  refine Met.ofW (cc := cX7_who) (maxL := 3) (ret := (some .int)) (by decide) rfl ?_
  intro p e s m args below meth c s₁ B hml hv
  obtain ⟨ha, hP, hK, hn, hD0⟩ := hv
  have hx := B.exec
  have hb := B.bytes
  have hr := B.returns
  have hts0 := atoms_spec (ws := (ws_ yX7_who cX7_who 3 (some .int))) B.pre
  have hts : ∀ w ∈ lw_all, w.before args s = true := fun w h => hts0 w (List.mem_cons_of_mem _ h)
  have hown : s.vm.findClass RX7 = some m.cls := findClass_of_methodNamed B.named
  have hlocks := B.notSynchronized
  have hD := adr_self hD0
  obtain ⟨A, hA⟩ : ∃ A, A = adr (mW cI o q0 q1 f x M h) := ⟨_, rfl⟩
  rw [← hA] at hD
  have hS : va_S A s.heap s.heap [] := va_S.rf
  obtain ⟨Q, hQ⟩ : ∃ Q, Q = MQ below (va_Qi (fun (r9 : Int32) (u9 : (Nat → Int32)) => (r9, u9) = fX7_who f M tb z) (fun u9 t => va_P (dC, dI) vwCl ((fun (v9 : (Nat → Int32)) => mW cI o q0 q1 f x v9 h) u9) t.heap) (adr (mW cI o q0 q1 f x M h))) args s 0 0 (adr (mW cI o q0 q1 f x M h)) := ⟨_, rfl⟩
  rw [← hQ]
  rw [← hA] at hQ
  have hl := lv_entry ([.ref o, .int tb, .int z]) (n := 3) (Nat.le_of_ble_eq_true rfl)
  rw [ha, lg_entry_eq, ← ha]
  generalize (lg_sl ([.ref o, .int tb, .int z]) ++ List.replicate (3 - (lg_sl ([.ref o, .int tb, .int z])).length) Slot.unset).toArray = ls at hl ⊢
  have hl : lv_has ls 3 [(0, .ref o), (1, .int tb), (2, .int z)] := hl
  show W p l e rmX7_who s m args below meth c s.heap [] 0 0 Q (F0 m 0 ls [])
  have hF : fX7_who f M tb z = fX7_who f M tb z := rfl
  refine lv_aload_n hx hb dX7_who_0 rfl (lv_at hl 0 rfl) ?_
  refine lv_aload_n hx hb dX7_who_1 rfl (lv_at hl 0 rfl) ?_
  refine lv_iload_n hx hb dX7_who_2 rfl (lv_at hl 1 rfl) ?_
  refine lv_iload_n hx hb dX7_who_3 rfl (lv_at hl 2 rfl) ?_
  refine k_callb (W.runV (As := [.int tb, .int z]) (rest := [.ref o]) ⟨hx, hb, hml, hown, hts0⟩ (mX7_isSeat l dC dI cI o q0 q1 f x M h tb z hR.2.2.1) (cwV 2 hts0 (gi_V u_981 u_983 us_25 u_7 u_984) rfl rfl rfl (by decide +kernel) ⟨Nat.le_of_ble_eq_true rfl, Nat.le_of_ble_eq_true rfl⟩) (pcR_V (ci := 5) (q0 := 0) hP hK hn rfl rfl) rfl rfl hl.1 rfl (lv_room (Nat.le_of_ble_eq_true rfl)) dX7_who_4 ⟨Nat.zero_le _, Nat.zero_le _⟩) (fun br4 => ?_)
  have K7 : ∀ (v7_0 : Nat), v7_0 = (if (fX7_isSeat f tb z) = 0 then 1 else 0) → ∀ (H : Heap) (locs : List Loc), va_P (dC, dI) vwCl (mW cI o q0 q1 f x M h) H → va_D A (mW cI o q0 q1 f x M h) → va_S A s.heap H locs → ∀ (ls : Array Slot), lv_has ls 3 [(0, .ref o), (1, .int tb), (2, .int z)] → W p l e rmX7_who s m args below meth c H locs 0 0 Q (F0 m 15 ls [.int (nI v7_0), .ref o]) := by
    intro v7_0 hz7 H locs hP hD hS ls hl
    have hz := hz7
    have bz7 : (nI v7_0 : Int32) = 0 ∨ nI v7_0 = 1 := by rw [hz]; (repeat' split); all_goals first | exact Or.inl rfl | exact Or.inr rfl
    have hF := bd_at hF hz
    refine k_muti (Wd := (fun (v9 : (Nat → Int32)) => mW cI o q0 q1 f x v9 h)) (va_runV (As := [.int (nI v7_0)]) (rest := []) ⟨hx, hb, hml, hown, hts0⟩ (mX7_holds l dC dI cI o q0 q1 f x M h (nI v7_0)) (cwV 1 hts0 (gi_V u_908 u_910 us_15 u_7 u_911) rfl rfl rfl (by decide +kernel) ⟨Nat.le_of_ble_eq_true rfl, Nat.le_of_ble_eq_true rfl⟩) (pcM_V (ci := 5) (q0 := 0) hP hK hn hD rfl rfl) rfl rfl hl.1 rfl (lv_room (Nat.le_of_ble_eq_true rfl)) dX7_who_15 ⟨Nat.zero_le _, Nat.zero_le _⟩) hP hD hS [0, 1, 2] rfl rfl (fun _ => rfl) (fun r15 U15 H locs hU15 hP hD hS => ?_)
    obtain ⟨hU15, br15⟩ := hU15
    have hP : va_P (dC, dI) vwCl (mW cI o q0 q1 f x U15 h) H := hP
    have hD : va_D A (mW cI o q0 q1 f x U15 h) := hD
    have hF := bd2_at hF hU15
    refine lv_if_eq (tgt := 31) hx hb dX7_who_18 (by decide) (fun c_18 => ?_) (fun c_18 => ?_)
    · have hF := hF.trans (if_pos c_18)
      refine lv_iconst (v := 0) hx hb dX7_who_31 (by decide) ?_
      rw [hQ]
      exact W.iret (v := 0) hx hb hr (fun t ht hW => ⟨⟨0, U15, rfl, hF.symm, toH ht hP⟩, hS.F ht⟩) hS.2.2 dX7_who_32
    have hF := hF.trans (if_neg c_18)
    refine lv_aload_n hx hb dX7_who_21 rfl (lv_at hl 0 rfl) ?_
    refine lv_iconst (v := 0) hx hb dX7_who_22 (by decide) ?_
    refine lv_iload_n hx hb dX7_who_23 rfl (lv_at hl 1 rfl) ?_
    refine lv_iload_n hx hb dX7_who_24 rfl (lv_at hl 2 rfl) ?_
    refine k_calli (W.runV (As := [.int 0, .int tb, .int z]) (rest := []) ⟨hx, hb, hml, hown, hts0⟩ (mX7_whoSits l dC dI cI o q0 q1 f x U15 h 0 tb z (by first | omega | assumption)) (cwV 3 hts0 (gi_V u_993 u_995 us_28 u_7 u_996) rfl rfl rfl (by decide +kernel) ⟨Nat.le_of_ble_eq_true rfl, Nat.le_of_ble_eq_true rfl⟩) (pcR_V (ci := 5) (q0 := 0) hP hK hn rfl rfl) rfl rfl hl.1 rfl (lv_room (Nat.le_of_ble_eq_true rfl)) dX7_who_25 ⟨Nat.zero_le _, Nat.zero_le _⟩) ?_
    refine lv_goto (tgt := 32) hx hb dX7_who_28 (by decide) ?_
    rw [hQ]
    exact W.iret (v := (fX7_whoSits f 0 tb z)) hx hb hr (fun t ht hW => ⟨⟨(fX7_whoSits f 0 tb z), U15, rfl, hF.symm, toH ht hP⟩, hS.F ht⟩) hS.2.2 dX7_who_32
  have hF : ((if (fX7_isSeat f tb z) = 0 then 1 else 0) : Nat) = (if (fX7_isSeat f tb z) = 0 then 1 else 0) := rfl
  refine lv_if_eq (tgt := 14) hx hb dX7_who_7 (by decide) (fun c_7 => ?_) (fun c_7 => ?_)
  · have hF := hF.trans (if_pos c_7)
    refine lv_iconst (v := 1) hx hb dX7_who_14 (by decide) ?_
    exact K7 _ hF.symm _ _ hP hD hS  ls (lv_sub hl [0, 1, 2] rfl)
  have hF := hF.trans (if_neg c_7)
  refine lv_iconst (v := 0) hx hb dX7_who_10 (by decide) ?_
  refine lv_goto (tgt := 15) hx hb dX7_who_11 (by decide) ?_
  exact K7 _ hF.symm _ _ hP hD hS  ls (lv_sub hl [0, 1, 2] rfl)

def fX7_seated (f : Nat → Int32) (M : Nat → Int32) (v : Int32) : Int32 × ((Nat → Int32)) :=
  (bd ((if 0 ≤ v then 0 else 1) : Nat) (fun v2_0 => (bd2 (fX7_holds M (nI v2_0)) (fun r10 U10 => (if r10 = 0 then (0, U10) else (if (f 3) ≤ (nI v.toNatClampNeg) then ((-1), U10) else ((f (22 + v.toNatClampNeg)), U10)))))))
abbrev rmX7_seated : Room := { frames := 1, cells := 0, slots := 0, locals := 21 }
set_option maxHeartbeats 4000000 in
set_option maxRecDepth 100000 in
theorem mX7_seated (l : Launch) (dC : Nat → ClassId) (dI : Nat → Nat → Nat) (cI : ClassId) (o q0 q1 : Nat) (f x M : Nat → Int32) (h : Int64) (v : Int32) (hR : RW f 0) : Met l yX7_seated (ws_ yX7_seated cX7_seated 2 (some .int)) rmX7_seated (pcM (dC, dI) [(cI, .int)] (mW cI o q0 q1 f x M h) [.ref o, .int v]) (va_Qi (fun (r9 : Int32) (u9 : (Nat → Int32)) => (r9, u9) = fX7_seated f M v) (fun u9 t => va_P (dC, dI) vwCl ((fun (v9 : (Nat → Int32)) => mW cI o q0 q1 f x v9 h) u9) t.heap) (adr (mW cI o q0 q1 f x M h))) 0 0 (adr (mW cI o q0 q1 f x M h)) := by
  refine Met.ofW (cc := cX7_seated) (maxL := 2) (ret := (some .int)) (by decide) rfl ?_
  intro p e s m args below meth c s₁ B hml hv
  obtain ⟨ha, hP, hK, hn, hD0⟩ := hv
  have hx := B.exec
  have hb := B.bytes
  have hr := B.returns
  have hts0 := atoms_spec (ws := (ws_ yX7_seated cX7_seated 2 (some .int))) B.pre
  have hts : ∀ w ∈ lw_all, w.before args s = true := fun w h => hts0 w (List.mem_cons_of_mem _ h)
  have hown : s.vm.findClass RX7 = some m.cls := findClass_of_methodNamed B.named
  have hlocks := B.notSynchronized
  have htX7 : ∀ w ∈ wsX70, w.before args s = true := fun w h => hts w (wX7 w h)
  have hD := adr_self hD0
  obtain ⟨A, hA⟩ : ∃ A, A = adr (mW cI o q0 q1 f x M h) := ⟨_, rfl⟩
  rw [← hA] at hD
  have hS : va_S A s.heap s.heap [] := va_S.rf
  obtain ⟨Q, hQ⟩ : ∃ Q, Q = MQ below (va_Qi (fun (r9 : Int32) (u9 : (Nat → Int32)) => (r9, u9) = fX7_seated f M v) (fun u9 t => va_P (dC, dI) vwCl ((fun (v9 : (Nat → Int32)) => mW cI o q0 q1 f x v9 h) u9) t.heap) (adr (mW cI o q0 q1 f x M h))) args s 0 0 (adr (mW cI o q0 q1 f x M h)) := ⟨_, rfl⟩
  rw [← hQ]
  rw [← hA] at hQ
  have hl := lv_entry ([.ref o, .int v]) (n := 2) (Nat.le_of_ble_eq_true rfl)
  rw [ha, lg_entry_eq, ← ha]
  generalize (lg_sl ([.ref o, .int v]) ++ List.replicate (2 - (lg_sl ([.ref o, .int v])).length) Slot.unset).toArray = ls at hl ⊢
  have hl : lv_has ls 2 [(0, .ref o), (1, .int v)] := hl
  show W p l e rmX7_seated s m args below meth c s.heap [] 0 0 Q (F0 m 0 ls [])
  have hF : fX7_seated f M v = fX7_seated f M v := rfl
  refine lv_aload_n hx hb dX7_seated_0 rfl (lv_at hl 0 rfl) ?_
  refine lv_iload_n hx hb dX7_seated_1 rfl (lv_at hl 1 rfl) ?_
  have K2 : ∀ (v2_0 : Nat), v2_0 = (if 0 ≤ v then 0 else 1) → ∀ (H : Heap) (locs : List Loc), va_P (dC, dI) vwCl (mW cI o q0 q1 f x M h) H → va_D A (mW cI o q0 q1 f x M h) → va_S A s.heap H locs → ∀ (ls : Array Slot), lv_has ls 2 [(0, .ref o), (1, .int v)] → W p l e rmX7_seated s m args below meth c H locs 0 0 Q (F0 m 10 ls [.int (nI v2_0), .ref o]) := by
    intro v2_0 hz2 H locs hP hD hS ls hl
    have hz := hz2
    have bz2 : (nI v2_0 : Int32) = 0 ∨ nI v2_0 = 1 := by rw [hz]; (repeat' split); all_goals first | exact Or.inl rfl | exact Or.inr rfl
    have hF := bd_at hF hz
    refine k_muti (Wd := (fun (v9 : (Nat → Int32)) => mW cI o q0 q1 f x v9 h)) (va_runV (As := [.int (nI v2_0)]) (rest := []) ⟨hx, hb, hml, hown, hts0⟩ (mX7_holds l dC dI cI o q0 q1 f x M h (nI v2_0)) (cwV 1 hts0 (gi_V u_908 u_910 us_15 u_7 u_911) rfl rfl rfl (by decide +kernel) ⟨Nat.le_of_ble_eq_true rfl, Nat.le_of_ble_eq_true rfl⟩) (pcM_V (ci := 5) (q0 := 0) hP hK hn hD rfl rfl) rfl rfl hl.1 rfl (lv_room (Nat.le_of_ble_eq_true rfl)) dX7_seated_10 ⟨Nat.zero_le _, Nat.zero_le _⟩) hP hD hS [0, 1, 2] rfl rfl (fun _ => rfl) (fun r10 U10 H locs hU10 hP hD hS => ?_)
    obtain ⟨hU10, br10⟩ := hU10
    have hP : va_P (dC, dI) vwCl (mW cI o q0 q1 f x U10 h) H := hP
    have hD : va_D A (mW cI o q0 q1 f x U10 h) := hD
    have hF := bd2_at hF hU10
    refine lv_if_ne (tgt := 18) hx hb dX7_seated_13 (by decide) (fun c_13 => ?_) (fun c_13 => ?_)
    · have hF := hF.trans (if_neg c_13)
      have hv0 := holds_ok hU10 c_13
      rw [hz2] at hv0
      have hvn := nn_e (nn_if hv0)
      refine lv_iload_n hx hb dX7_seated_18 rfl (lv_at hl 1 rfl) ?_
      refine lv_tope (y := (nI v.toNatClampNeg)) hvn ?_
      refine lv_aload_n hx hb dX7_seated_19 rfl (lv_at hl 0 rfl) ?_
      refine va_get (D := (dC, dI)) (ci := 5) (v := .ref q0) (C := RX7) (T := TX7) (N := 12) hx hb htX7 (fun _ h => h) hown hK hP 0 rfl rfl 1 (by decide) (hts _ u_858) (fun _ h9 => h9) rfl dX7_seated_20 ?_
      refine lv_iconst (v := 3) hx hb dX7_seated_23 (by decide) ?_
      refine va_iald hx hb hK hP 1 0 rfl rfl (vp_in_nI (n := 3) (by omega) (by decide)) dX7_seated_24 ?_
      refine lv_tope (y := (f 3)) (at_nI (k := 3) (by omega)) ?_
      refine lv_icmp_ge (tgt := 40) hx hb dX7_seated_25 (by decide) (fun c_25 => ?_) (fun c_25 => ?_)
      · have hF := hF.trans (if_pos c_25)
        refine lv_iconst (v := (-1)) hx hb dX7_seated_40 (by decide) ?_
        rw [hQ]
        exact W.iret (v := (-1)) hx hb hr (fun t ht hW => ⟨⟨(-1), U10, rfl, hF.symm, toH ht hP⟩, hS.F ht⟩) hS.2.2 dX7_seated_41
      have hF := hF.trans (if_neg c_25)
      have hvs := lt_of_nle hR.2.2.2.2.1 (by decide) (cn_clamp_lt v) c_25
      refine lv_aload_n hx hb dX7_seated_28 rfl (lv_at hl 0 rfl) ?_
      refine va_get (D := (dC, dI)) (ci := 5) (v := .ref q0) (C := RX7) (T := TX7) (N := 12) hx hb htX7 (fun _ h => h) hown hK hP 0 rfl rfl 1 (by decide) (hts _ u_858) (fun _ h9 => h9) rfl dX7_seated_29 ?_
      refine lv_bipush (v := 22) hx hb dX7_seated_32 (by decide) ?_
      refine lv_iload_n hx hb dX7_seated_34 rfl (lv_at hl 1 rfl) ?_
      refine lv_tope (y := (nI v.toNatClampNeg)) hvn ?_
      refine lv_iadd hx hb dX7_seated_35 ?_
      refine lv_tope (y := (nI (22 + v.toNatClampNeg))) (nI_add 22 v.toNatClampNeg) ?_
      refine va_iald hx hb hK hP 1 0 rfl rfl (vp_in_nI (n := (22 + v.toNatClampNeg)) (by omega) (by decide)) dX7_seated_36 ?_
      refine lv_tope (y := (f (22 + v.toNatClampNeg))) (at_nI (k := (22 + v.toNatClampNeg)) (by omega)) ?_
      refine lv_goto (tgt := 41) hx hb dX7_seated_37 (by decide) ?_
      rw [hQ]
      exact W.iret (v := (f (22 + v.toNatClampNeg))) hx hb hr (fun t ht hW => ⟨⟨(f (22 + v.toNatClampNeg)), U10, rfl, hF.symm, toH ht hP⟩, hS.F ht⟩) hS.2.2 dX7_seated_41
    have hF := hF.trans (if_pos c_13)
    refine lv_iconst (v := 0) hx hb dX7_seated_16 (by decide) ?_
    rw [hQ]
    exact W.iret (v := 0) hx hb hr (fun t ht hW => ⟨⟨0, U10, rfl, hF.symm, toH ht hP⟩, hS.F ht⟩) hS.2.2 dX7_seated_17
  have hF : ((if 0 ≤ v then 0 else 1) : Nat) = (if 0 ≤ v then 0 else 1) := rfl
  refine lv_if_ge (tgt := 9) hx hb dX7_seated_2 (by decide) (fun c_2 => ?_) (fun c_2 => ?_)
  · have hF := hF.trans (if_pos c_2)
    refine lv_iconst (v := 0) hx hb dX7_seated_9 (by decide) ?_
    exact K2 _ hF.symm _ _ hP hD hS  ls (lv_sub hl [0, 1] rfl)
  have hF := hF.trans (if_neg c_2)
  refine lv_iconst (v := 1) hx hb dX7_seated_5 (by decide) ?_
  refine lv_goto (tgt := 10) hx hb dX7_seated_6 (by decide) ?_
  exact K2 _ hF.symm _ _ hP hD hS  ls (lv_sub hl [0, 1] rfl)

def fX7_feudAt (f : Nat → Int32) (M : Nat → Int32) (v : Int32) : Int32 × ((Nat → Int32)) :=
  (bd ((if 0 ≤ v then 0 else 1) : Nat) (fun v2_0 => (bd2 (fX7_holds M (nI v2_0)) (fun r10 U10 => (if r10 = 0 then (0, U10) else (if (f 2) ≤ (nI v.toNatClampNeg) then ((-1), U10) else ((f (10 + v.toNatClampNeg)), U10)))))))
abbrev rmX7_feudAt : Room := { frames := 1, cells := 0, slots := 0, locals := 21 }
set_option maxHeartbeats 4000000 in
set_option maxRecDepth 100000 in
theorem mX7_feudAt (l : Launch) (dC : Nat → ClassId) (dI : Nat → Nat → Nat) (cI : ClassId) (o q0 q1 : Nat) (f x M : Nat → Int32) (h : Int64) (v : Int32) (hR : RW f 0) : Met l yX7_feudAt (ws_ yX7_feudAt cX7_feudAt 2 (some .int)) rmX7_feudAt (pcM (dC, dI) [(cI, .int)] (mW cI o q0 q1 f x M h) [.ref o, .int v]) (va_Qi (fun (r9 : Int32) (u9 : (Nat → Int32)) => (r9, u9) = fX7_feudAt f M v) (fun u9 t => va_P (dC, dI) vwCl ((fun (v9 : (Nat → Int32)) => mW cI o q0 q1 f x v9 h) u9) t.heap) (adr (mW cI o q0 q1 f x M h))) 0 0 (adr (mW cI o q0 q1 f x M h)) := by
  refine Met.ofW (cc := cX7_feudAt) (maxL := 2) (ret := (some .int)) (by decide) rfl ?_
  intro p e s m args below meth c s₁ B hml hv
  obtain ⟨ha, hP, hK, hn, hD0⟩ := hv
  have hx := B.exec
  have hb := B.bytes
  have hr := B.returns
  have hts0 := atoms_spec (ws := (ws_ yX7_feudAt cX7_feudAt 2 (some .int))) B.pre
  have hts : ∀ w ∈ lw_all, w.before args s = true := fun w h => hts0 w (List.mem_cons_of_mem _ h)
  have hown : s.vm.findClass RX7 = some m.cls := findClass_of_methodNamed B.named
  have hlocks := B.notSynchronized
  have htX7 : ∀ w ∈ wsX70, w.before args s = true := fun w h => hts w (wX7 w h)
  have hD := adr_self hD0
  obtain ⟨A, hA⟩ : ∃ A, A = adr (mW cI o q0 q1 f x M h) := ⟨_, rfl⟩
  rw [← hA] at hD
  have hS : va_S A s.heap s.heap [] := va_S.rf
  obtain ⟨Q, hQ⟩ : ∃ Q, Q = MQ below (va_Qi (fun (r9 : Int32) (u9 : (Nat → Int32)) => (r9, u9) = fX7_feudAt f M v) (fun u9 t => va_P (dC, dI) vwCl ((fun (v9 : (Nat → Int32)) => mW cI o q0 q1 f x v9 h) u9) t.heap) (adr (mW cI o q0 q1 f x M h))) args s 0 0 (adr (mW cI o q0 q1 f x M h)) := ⟨_, rfl⟩
  rw [← hQ]
  rw [← hA] at hQ
  have hl := lv_entry ([.ref o, .int v]) (n := 2) (Nat.le_of_ble_eq_true rfl)
  rw [ha, lg_entry_eq, ← ha]
  generalize (lg_sl ([.ref o, .int v]) ++ List.replicate (2 - (lg_sl ([.ref o, .int v])).length) Slot.unset).toArray = ls at hl ⊢
  have hl : lv_has ls 2 [(0, .ref o), (1, .int v)] := hl
  show W p l e rmX7_feudAt s m args below meth c s.heap [] 0 0 Q (F0 m 0 ls [])
  have hF : fX7_feudAt f M v = fX7_feudAt f M v := rfl
  refine lv_aload_n hx hb dX7_feudAt_0 rfl (lv_at hl 0 rfl) ?_
  refine lv_iload_n hx hb dX7_feudAt_1 rfl (lv_at hl 1 rfl) ?_
  have K2 : ∀ (v2_0 : Nat), v2_0 = (if 0 ≤ v then 0 else 1) → ∀ (H : Heap) (locs : List Loc), va_P (dC, dI) vwCl (mW cI o q0 q1 f x M h) H → va_D A (mW cI o q0 q1 f x M h) → va_S A s.heap H locs → ∀ (ls : Array Slot), lv_has ls 2 [(0, .ref o), (1, .int v)] → W p l e rmX7_feudAt s m args below meth c H locs 0 0 Q (F0 m 10 ls [.int (nI v2_0), .ref o]) := by
    intro v2_0 hz2 H locs hP hD hS ls hl
    have hz := hz2
    have bz2 : (nI v2_0 : Int32) = 0 ∨ nI v2_0 = 1 := by rw [hz]; (repeat' split); all_goals first | exact Or.inl rfl | exact Or.inr rfl
    have hF := bd_at hF hz
    refine k_muti (Wd := (fun (v9 : (Nat → Int32)) => mW cI o q0 q1 f x v9 h)) (va_runV (As := [.int (nI v2_0)]) (rest := []) ⟨hx, hb, hml, hown, hts0⟩ (mX7_holds l dC dI cI o q0 q1 f x M h (nI v2_0)) (cwV 1 hts0 (gi_V u_908 u_910 us_15 u_7 u_911) rfl rfl rfl (by decide +kernel) ⟨Nat.le_of_ble_eq_true rfl, Nat.le_of_ble_eq_true rfl⟩) (pcM_V (ci := 5) (q0 := 0) hP hK hn hD rfl rfl) rfl rfl hl.1 rfl (lv_room (Nat.le_of_ble_eq_true rfl)) dX7_feudAt_10 ⟨Nat.zero_le _, Nat.zero_le _⟩) hP hD hS [0, 1, 2] rfl rfl (fun _ => rfl) (fun r10 U10 H locs hU10 hP hD hS => ?_)
    obtain ⟨hU10, br10⟩ := hU10
    have hP : va_P (dC, dI) vwCl (mW cI o q0 q1 f x U10 h) H := hP
    have hD : va_D A (mW cI o q0 q1 f x U10 h) := hD
    have hF := bd2_at hF hU10
    refine lv_if_ne (tgt := 18) hx hb dX7_feudAt_13 (by decide) (fun c_13 => ?_) (fun c_13 => ?_)
    · have hF := hF.trans (if_neg c_13)
      have hv0 := holds_ok hU10 c_13
      rw [hz2] at hv0
      have hvn := nn_e (nn_if hv0)
      refine lv_iload_n hx hb dX7_feudAt_18 rfl (lv_at hl 1 rfl) ?_
      refine lv_tope (y := (nI v.toNatClampNeg)) hvn ?_
      refine lv_aload_n hx hb dX7_feudAt_19 rfl (lv_at hl 0 rfl) ?_
      refine va_get (D := (dC, dI)) (ci := 5) (v := .ref q0) (C := RX7) (T := TX7) (N := 12) hx hb htX7 (fun _ h => h) hown hK hP 0 rfl rfl 1 (by decide) (hts _ u_858) (fun _ h9 => h9) rfl dX7_feudAt_20 ?_
      refine lv_iconst (v := 2) hx hb dX7_feudAt_23 (by decide) ?_
      refine va_iald hx hb hK hP 1 0 rfl rfl (vp_in_nI (n := 2) (by omega) (by decide)) dX7_feudAt_24 ?_
      refine lv_tope (y := (f 2)) (at_nI (k := 2) (by omega)) ?_
      refine lv_icmp_ge (tgt := 40) hx hb dX7_feudAt_25 (by decide) (fun c_25 => ?_) (fun c_25 => ?_)
      · have hF := hF.trans (if_pos c_25)
        refine lv_iconst (v := (-1)) hx hb dX7_feudAt_40 (by decide) ?_
        rw [hQ]
        exact W.iret (v := (-1)) hx hb hr (fun t ht hW => ⟨⟨(-1), U10, rfl, hF.symm, toH ht hP⟩, hS.F ht⟩) hS.2.2 dX7_feudAt_41
      have hF := hF.trans (if_neg c_25)
      have hvs := lt_of_nle hR.2.2.2.1 (by decide) (cn_clamp_lt v) c_25
      refine lv_aload_n hx hb dX7_feudAt_28 rfl (lv_at hl 0 rfl) ?_
      refine va_get (D := (dC, dI)) (ci := 5) (v := .ref q0) (C := RX7) (T := TX7) (N := 12) hx hb htX7 (fun _ h => h) hown hK hP 0 rfl rfl 1 (by decide) (hts _ u_858) (fun _ h9 => h9) rfl dX7_feudAt_29 ?_
      refine lv_bipush (v := 10) hx hb dX7_feudAt_32 (by decide) ?_
      refine lv_iload_n hx hb dX7_feudAt_34 rfl (lv_at hl 1 rfl) ?_
      refine lv_tope (y := (nI v.toNatClampNeg)) hvn ?_
      refine lv_iadd hx hb dX7_feudAt_35 ?_
      refine lv_tope (y := (nI (10 + v.toNatClampNeg))) (nI_add 10 v.toNatClampNeg) ?_
      refine va_iald hx hb hK hP 1 0 rfl rfl (vp_in_nI (n := (10 + v.toNatClampNeg)) (by omega) (by decide)) dX7_feudAt_36 ?_
      refine lv_tope (y := (f (10 + v.toNatClampNeg))) (at_nI (k := (10 + v.toNatClampNeg)) (by omega)) ?_
      refine lv_goto (tgt := 41) hx hb dX7_feudAt_37 (by decide) ?_
      rw [hQ]
      exact W.iret (v := (f (10 + v.toNatClampNeg))) hx hb hr (fun t ht hW => ⟨⟨(f (10 + v.toNatClampNeg)), U10, rfl, hF.symm, toH ht hP⟩, hS.F ht⟩) hS.2.2 dX7_feudAt_41
    have hF := hF.trans (if_pos c_13)
    refine lv_iconst (v := 0) hx hb dX7_feudAt_16 (by decide) ?_
    rw [hQ]
    exact W.iret (v := 0) hx hb hr (fun t ht hW => ⟨⟨0, U10, rfl, hF.symm, toH ht hP⟩, hS.F ht⟩) hS.2.2 dX7_feudAt_17
  have hF : ((if 0 ≤ v then 0 else 1) : Nat) = (if 0 ≤ v then 0 else 1) := rfl
  refine lv_if_ge (tgt := 9) hx hb dX7_feudAt_2 (by decide) (fun c_2 => ?_) (fun c_2 => ?_)
  · have hF := hF.trans (if_pos c_2)
    refine lv_iconst (v := 0) hx hb dX7_feudAt_9 (by decide) ?_
    exact K2 _ hF.symm _ _ hP hD hS  ls (lv_sub hl [0, 1] rfl)
  have hF := hF.trans (if_neg c_2)
  refine lv_iconst (v := 1) hx hb dX7_feudAt_5 (by decide) ?_
  refine lv_goto (tgt := 10) hx hb dX7_feudAt_6 (by decide) ?_
  exact K2 _ hF.symm _ _ hP hD hS  ls (lv_sub hl [0, 1] rfl)

def fX7_count (f : Nat → Int32) (M : Nat → Int32) (v : Int32) : Int32 × ((Nat → Int32)) :=
  (bd ((if (fX7_in v 0 13) = 0 then 1 else 0) : Nat) (fun v8_0 => (bd2 (fX7_holds M (nI v8_0)) (fun r16 U16 => (if r16 = 0 then (0, U16) else ((fX7_counted f U16 v.toNatClampNeg), U16))))))
abbrev rmX7_count : Room := { frames := 5, cells := 0, slots := 0, locals := 117 }
set_option maxHeartbeats 4000000 in
set_option maxRecDepth 100000 in
theorem mX7_count (l : Launch) (dC : Nat → ClassId) (dI : Nat → Nat → Nat) (cI : ClassId) (o q0 q1 : Nat) (f x M : Nat → Int32) (h : Int64) (v : Int32) (hR : RW f 0) : Met l yX7_count (ws_ yX7_count cX7_count 2 (some .int)) rmX7_count (pcM (dC, dI) [(cI, .int)] (mW cI o q0 q1 f x M h) [.ref o, .int v]) (va_Qi (fun (r9 : Int32) (u9 : (Nat → Int32)) => (r9, u9) = fX7_count f M v) (fun u9 t => va_P (dC, dI) vwCl ((fun (v9 : (Nat → Int32)) => mW cI o q0 q1 f x v9 h) u9) t.heap) (adr (mW cI o q0 q1 f x M h))) 0 0 (adr (mW cI o q0 q1 f x M h)) := by
  refine Met.ofW (cc := cX7_count) (maxL := 2) (ret := (some .int)) (by decide) rfl ?_
  intro p e s m args below meth c s₁ B hml hv
  obtain ⟨ha, hP, hK, hn, hD0⟩ := hv
  have hx := B.exec
  have hb := B.bytes
  have hr := B.returns
  have hts0 := atoms_spec (ws := (ws_ yX7_count cX7_count 2 (some .int))) B.pre
  have hts : ∀ w ∈ lw_all, w.before args s = true := fun w h => hts0 w (List.mem_cons_of_mem _ h)
  have hown : s.vm.findClass RX7 = some m.cls := findClass_of_methodNamed B.named
  have hlocks := B.notSynchronized
  have hD := adr_self hD0
  obtain ⟨A, hA⟩ : ∃ A, A = adr (mW cI o q0 q1 f x M h) := ⟨_, rfl⟩
  rw [← hA] at hD
  have hS : va_S A s.heap s.heap [] := va_S.rf
  obtain ⟨Q, hQ⟩ : ∃ Q, Q = MQ below (va_Qi (fun (r9 : Int32) (u9 : (Nat → Int32)) => (r9, u9) = fX7_count f M v) (fun u9 t => va_P (dC, dI) vwCl ((fun (v9 : (Nat → Int32)) => mW cI o q0 q1 f x v9 h) u9) t.heap) (adr (mW cI o q0 q1 f x M h))) args s 0 0 (adr (mW cI o q0 q1 f x M h)) := ⟨_, rfl⟩
  rw [← hQ]
  rw [← hA] at hQ
  have hl := lv_entry ([.ref o, .int v]) (n := 2) (Nat.le_of_ble_eq_true rfl)
  rw [ha, lg_entry_eq, ← ha]
  generalize (lg_sl ([.ref o, .int v]) ++ List.replicate (2 - (lg_sl ([.ref o, .int v])).length) Slot.unset).toArray = ls at hl ⊢
  have hl : lv_has ls 2 [(0, .ref o), (1, .int v)] := hl
  show W p l e rmX7_count s m args below meth c s.heap [] 0 0 Q (F0 m 0 ls [])
  have hF : fX7_count f M v = fX7_count f M v := rfl
  refine lv_aload_n hx hb dX7_count_0 rfl (lv_at hl 0 rfl) ?_
  refine lv_iload_n hx hb dX7_count_1 rfl (lv_at hl 1 rfl) ?_
  refine lv_iconst (v := 0) hx hb dX7_count_2 (by decide) ?_
  refine lv_bipush (v := 13) hx hb dX7_count_3 (by decide) ?_
  refine k_callb (W.runS (As := [.int v, .int 0, .int 13]) (rest := [.ref o]) ⟨hx, hb, hml, hown, hts0⟩ (mX7_in l dC dI  v 0 13) (va_cwS 3 hts0 (gi_S u_905 u_906 u_7 u_907) rfl rfl rfl (by decide +kernel) ⟨Nat.le_of_ble_eq_true rfl, Nat.le_of_ble_eq_true rfl⟩) (pcR_S (hP.sub (ws' := []) [] rfl) (hK.sub (tys' := []) [] rfl) hn) rfl rfl hl.1 rfl (lv_room (Nat.le_of_ble_eq_true rfl)) dX7_count_5 ⟨Nat.zero_le _, Nat.zero_le _⟩) (fun br5 => ?_)
  have K8 : ∀ (v8_0 : Nat), v8_0 = (if (fX7_in v 0 13) = 0 then 1 else 0) → ∀ (H : Heap) (locs : List Loc), va_P (dC, dI) vwCl (mW cI o q0 q1 f x M h) H → va_D A (mW cI o q0 q1 f x M h) → va_S A s.heap H locs → ∀ (ls : Array Slot), lv_has ls 2 [(0, .ref o), (1, .int v)] → W p l e rmX7_count s m args below meth c H locs 0 0 Q (F0 m 16 ls [.int (nI v8_0), .ref o]) := by
    intro v8_0 hz8 H locs hP hD hS ls hl
    have hz := hz8
    have bz8 : (nI v8_0 : Int32) = 0 ∨ nI v8_0 = 1 := by rw [hz]; (repeat' split); all_goals first | exact Or.inl rfl | exact Or.inr rfl
    have hF := bd_at hF hz
    refine k_muti (Wd := (fun (v9 : (Nat → Int32)) => mW cI o q0 q1 f x v9 h)) (va_runV (As := [.int (nI v8_0)]) (rest := []) ⟨hx, hb, hml, hown, hts0⟩ (mX7_holds l dC dI cI o q0 q1 f x M h (nI v8_0)) (cwV 1 hts0 (gi_V u_908 u_910 us_15 u_7 u_911) rfl rfl rfl (by decide +kernel) ⟨Nat.le_of_ble_eq_true rfl, Nat.le_of_ble_eq_true rfl⟩) (pcM_V (ci := 5) (q0 := 0) hP hK hn hD rfl rfl) rfl rfl hl.1 rfl (lv_room (Nat.le_of_ble_eq_true rfl)) dX7_count_16 ⟨Nat.zero_le _, Nat.zero_le _⟩) hP hD hS [0, 1, 2] rfl rfl (fun _ => rfl) (fun r16 U16 H locs hU16 hP hD hS => ?_)
    obtain ⟨hU16, br16⟩ := hU16
    have hP : va_P (dC, dI) vwCl (mW cI o q0 q1 f x U16 h) H := hP
    have hD : va_D A (mW cI o q0 q1 f x U16 h) := hD
    have hF := bd2_at hF hU16
    refine lv_if_eq (tgt := 30) hx hb dX7_count_19 (by decide) (fun c_19 => ?_) (fun c_19 => ?_)
    · have hF := hF.trans (if_pos c_19)
      refine lv_iconst (v := 0) hx hb dX7_count_30 (by decide) ?_
      rw [hQ]
      exact W.iret (v := 0) hx hb hr (fun t ht hW => ⟨⟨0, U16, rfl, hF.symm, toH ht hP⟩, hS.F ht⟩) hS.2.2 dX7_count_31
    have hF := hF.trans (if_neg c_19)
    have hv0 := holds_ok hU16 c_19
    rw [hz8] at hv0
    have k1 : ¬ (fX7_in v 0 13) = 0 := fun z => by rw [if_pos z] at hv0; exact absurd hv0 (by decide)
    obtain ⟨hvn, hvl⟩ := in_le (v := v) (hi := 13) (by decide) k1
    refine lv_aload_n hx hb dX7_count_22 rfl (lv_at hl 0 rfl) ?_
    refine lv_iload_n hx hb dX7_count_23 rfl (lv_at hl 1 rfl) ?_
    refine lv_tope (y := (nI v.toNatClampNeg)) hvn ?_
    refine k_calli (W.runV (As := [.int (nI v.toNatClampNeg)]) (rest := []) ⟨hx, hb, hml, hown, hts0⟩ (mX7_counted l dC dI cI o q0 q1 f x U16 h v.toNatClampNeg (by first | omega | assumption) (by first | omega | assumption)) (cwV 1 hts0 (gi_V u_1140 u_1142 us_47 u_7 u_1143) rfl rfl rfl (by decide +kernel) ⟨Nat.le_of_ble_eq_true rfl, Nat.le_of_ble_eq_true rfl⟩) (pcR_V (ci := 5) (q0 := 0) hP hK hn rfl rfl) rfl rfl hl.1 rfl (lv_room (Nat.le_of_ble_eq_true rfl)) dX7_count_24 ⟨Nat.zero_le _, Nat.zero_le _⟩) ?_
    refine lv_goto (tgt := 31) hx hb dX7_count_27 (by decide) ?_
    rw [hQ]
    exact W.iret (v := (fX7_counted f U16 v.toNatClampNeg)) hx hb hr (fun t ht hW => ⟨⟨(fX7_counted f U16 v.toNatClampNeg), U16, rfl, hF.symm, toH ht hP⟩, hS.F ht⟩) hS.2.2 dX7_count_31
  have hF : ((if (fX7_in v 0 13) = 0 then 1 else 0) : Nat) = (if (fX7_in v 0 13) = 0 then 1 else 0) := rfl
  refine lv_if_eq (tgt := 15) hx hb dX7_count_8 (by decide) (fun c_8 => ?_) (fun c_8 => ?_)
  · have hF := hF.trans (if_pos c_8)
    refine lv_iconst (v := 1) hx hb dX7_count_15 (by decide) ?_
    exact K8 _ hF.symm _ _ hP hD hS  ls (lv_sub hl [0, 1] rfl)
  have hF := hF.trans (if_neg c_8)
  refine lv_iconst (v := 0) hx hb dX7_count_11 (by decide) ?_
  refine lv_goto (tgt := 16) hx hb dX7_count_12 (by decide) ?_
  exact K8 _ hF.symm _ _ hP hD hS  ls (lv_sub hl [0, 1] rfl)

def fX7_whyNot (f : Nat → Int32) (M : Nat → Int32) (v : Int32) (tb : Int32) (z : Int32) : Int32 × ((Nat → Int32)) :=
  (bd ((if (fX7_isGuest f v) = 0 then 1 else (if (fX7_isSeat f tb z) = 0 then 1 else 0)) : Nat) (fun v6_0 => (bd2 (fX7_holds M (nI v6_0)) (fun r23 U23 => (if r23 = 0 then (0, U23) else ((fX7_reason f 0 v.toNatClampNeg tb z), U23))))))
abbrev rmX7_whyNot : Room := { frames := 3, cells := 0, slots := 0, locals := 75 }
set_option maxHeartbeats 4000000 in
set_option maxRecDepth 100000 in
theorem mX7_whyNot (l : Launch) (dC : Nat → ClassId) (dI : Nat → Nat → Nat) (cI : ClassId) (o q0 q1 : Nat) (f x M : Nat → Int32) (h : Int64) (v : Int32) (tb : Int32) (z : Int32) (hR : RW f 0) : Met l yX7_whyNot (ws_ yX7_whyNot cX7_whyNot 4 (some .int)) rmX7_whyNot (pcM (dC, dI) [(cI, .int)] (mW cI o q0 q1 f x M h) [.ref o, .int v, .int tb, .int z]) (va_Qi (fun (r9 : Int32) (u9 : (Nat → Int32)) => (r9, u9) = fX7_whyNot f M v tb z) (fun u9 t => va_P (dC, dI) vwCl ((fun (v9 : (Nat → Int32)) => mW cI o q0 q1 f x v9 h) u9) t.heap) (adr (mW cI o q0 q1 f x M h))) 0 0 (adr (mW cI o q0 q1 f x M h)) := by
  refine Met.ofW (cc := cX7_whyNot) (maxL := 4) (ret := (some .int)) (by decide) rfl ?_
  intro p e s m args below meth c s₁ B hml hv
  obtain ⟨ha, hP, hK, hn, hD0⟩ := hv
  have hx := B.exec
  have hb := B.bytes
  have hr := B.returns
  have hts0 := atoms_spec (ws := (ws_ yX7_whyNot cX7_whyNot 4 (some .int))) B.pre
  have hts : ∀ w ∈ lw_all, w.before args s = true := fun w h => hts0 w (List.mem_cons_of_mem _ h)
  have hown : s.vm.findClass RX7 = some m.cls := findClass_of_methodNamed B.named
  have hlocks := B.notSynchronized
  have hD := adr_self hD0
  obtain ⟨A, hA⟩ : ∃ A, A = adr (mW cI o q0 q1 f x M h) := ⟨_, rfl⟩
  rw [← hA] at hD
  have hS : va_S A s.heap s.heap [] := va_S.rf
  obtain ⟨Q, hQ⟩ : ∃ Q, Q = MQ below (va_Qi (fun (r9 : Int32) (u9 : (Nat → Int32)) => (r9, u9) = fX7_whyNot f M v tb z) (fun u9 t => va_P (dC, dI) vwCl ((fun (v9 : (Nat → Int32)) => mW cI o q0 q1 f x v9 h) u9) t.heap) (adr (mW cI o q0 q1 f x M h))) args s 0 0 (adr (mW cI o q0 q1 f x M h)) := ⟨_, rfl⟩
  rw [← hQ]
  rw [← hA] at hQ
  have hl := lv_entry ([.ref o, .int v, .int tb, .int z]) (n := 4) (Nat.le_of_ble_eq_true rfl)
  rw [ha, lg_entry_eq, ← ha]
  generalize (lg_sl ([.ref o, .int v, .int tb, .int z]) ++ List.replicate (4 - (lg_sl ([.ref o, .int v, .int tb, .int z])).length) Slot.unset).toArray = ls at hl ⊢
  have hl : lv_has ls 4 [(0, .ref o), (1, .int v), (2, .int tb), (3, .int z)] := hl
  show W p l e rmX7_whyNot s m args below meth c s.heap [] 0 0 Q (F0 m 0 ls [])
  have hF : fX7_whyNot f M v tb z = fX7_whyNot f M v tb z := rfl
  refine lv_aload_n hx hb dX7_whyNot_0 rfl (lv_at hl 0 rfl) ?_
  refine lv_aload_n hx hb dX7_whyNot_1 rfl (lv_at hl 0 rfl) ?_
  refine lv_iload_n hx hb dX7_whyNot_2 rfl (lv_at hl 1 rfl) ?_
  refine k_callb (W.runV (As := [.int v]) (rest := [.ref o]) ⟨hx, hb, hml, hown, hts0⟩ (mX7_isGuest l dC dI cI o q0 q1 f x M h v) (cwV 1 hts0 (gi_V u_928 u_930 us_19 u_7 u_931) rfl rfl rfl (by decide +kernel) ⟨Nat.le_of_ble_eq_true rfl, Nat.le_of_ble_eq_true rfl⟩) (pcR_V (ci := 5) (q0 := 0) hP hK hn rfl rfl) rfl rfl hl.1 rfl (lv_room (Nat.le_of_ble_eq_true rfl)) dX7_whyNot_3 ⟨Nat.zero_le _, Nat.zero_le _⟩) (fun br3 => ?_)
  have K6 : ∀ (v6_0 : Nat), v6_0 = (if (fX7_isGuest f v) = 0 then 1 else (if (fX7_isSeat f tb z) = 0 then 1 else 0)) → ∀ (H : Heap) (locs : List Loc), va_P (dC, dI) vwCl (mW cI o q0 q1 f x M h) H → va_D A (mW cI o q0 q1 f x M h) → va_S A s.heap H locs → ∀ (ls : Array Slot), lv_has ls 4 [(0, .ref o), (1, .int v), (2, .int tb), (3, .int z)] → W p l e rmX7_whyNot s m args below meth c H locs 0 0 Q (F0 m 23 ls [.int (nI v6_0), .ref o]) := by
    intro v6_0 hz6 H locs hP hD hS ls hl
    have hz := hz6
    have bz6 : (nI v6_0 : Int32) = 0 ∨ nI v6_0 = 1 := by rw [hz]; (repeat' split); all_goals first | exact Or.inl rfl | exact Or.inr rfl
    have hF := bd_at hF hz
    refine k_muti (Wd := (fun (v9 : (Nat → Int32)) => mW cI o q0 q1 f x v9 h)) (va_runV (As := [.int (nI v6_0)]) (rest := []) ⟨hx, hb, hml, hown, hts0⟩ (mX7_holds l dC dI cI o q0 q1 f x M h (nI v6_0)) (cwV 1 hts0 (gi_V u_908 u_910 us_15 u_7 u_911) rfl rfl rfl (by decide +kernel) ⟨Nat.le_of_ble_eq_true rfl, Nat.le_of_ble_eq_true rfl⟩) (pcM_V (ci := 5) (q0 := 0) hP hK hn hD rfl rfl) rfl rfl hl.1 rfl (lv_room (Nat.le_of_ble_eq_true rfl)) dX7_whyNot_23 ⟨Nat.zero_le _, Nat.zero_le _⟩) hP hD hS [0, 1, 2] rfl rfl (fun _ => rfl) (fun r23 U23 H locs hU23 hP hD hS => ?_)
    obtain ⟨hU23, br23⟩ := hU23
    have hP : va_P (dC, dI) vwCl (mW cI o q0 q1 f x U23 h) H := hP
    have hD : va_D A (mW cI o q0 q1 f x U23 h) := hD
    have hF := bd2_at hF hU23
    refine lv_if_eq (tgt := 40) hx hb dX7_whyNot_26 (by decide) (fun c_26 => ?_) (fun c_26 => ?_)
    · have hF := hF.trans (if_pos c_26)
      refine lv_iconst (v := 0) hx hb dX7_whyNot_40 (by decide) ?_
      rw [hQ]
      exact W.iret (v := 0) hx hb hr (fun t ht hW => ⟨⟨0, U23, rfl, hF.symm, toH ht hP⟩, hS.F ht⟩) hS.2.2 dX7_whyNot_41
    have hF := hF.trans (if_neg c_26)
    have hv0 := holds_ok hU23 c_26
    rw [hz6] at hv0
    have k2 : ¬ (fX7_isGuest f v) = 0 := fun z => by rw [if_pos z] at hv0; exact absurd hv0 (by decide)
    obtain ⟨hvn, hvl, hvb⟩ := in_nat (v := v) (x := f 0) (n := 16) hR.2.1 (by decide) k2
    refine lv_aload_n hx hb dX7_whyNot_29 rfl (lv_at hl 0 rfl) ?_
    refine lv_iconst (v := 0) hx hb dX7_whyNot_30 (by decide) ?_
    refine lv_iload_n hx hb dX7_whyNot_31 rfl (lv_at hl 1 rfl) ?_
    refine lv_tope (y := (nI v.toNatClampNeg)) hvn ?_
    refine lv_iload_n hx hb dX7_whyNot_32 rfl (lv_at hl 2 rfl) ?_
    refine lv_iload_n hx hb dX7_whyNot_33 rfl (lv_at hl 3 rfl) ?_
    refine k_calli (W.runV (As := [.int 0, .int (nI v.toNatClampNeg), .int tb, .int z]) (rest := []) ⟨hx, hb, hml, hown, hts0⟩ (mX7_reason l dC dI cI o q0 q1 f x U23 h 0 v.toNatClampNeg tb z (by first | omega | assumption) (by first | omega | assumption)) (cwV 4 hts0 (gi_V u_989 u_991 us_27 u_7 u_992) rfl rfl rfl (by decide +kernel) ⟨Nat.le_of_ble_eq_true rfl, Nat.le_of_ble_eq_true rfl⟩) (pcR_V (ci := 5) (q0 := 0) hP hK hn rfl rfl) rfl rfl hl.1 rfl (lv_room (Nat.le_of_ble_eq_true rfl)) dX7_whyNot_34 ⟨Nat.zero_le _, Nat.zero_le _⟩) ?_
    refine lv_goto (tgt := 41) hx hb dX7_whyNot_37 (by decide) ?_
    rw [hQ]
    exact W.iret (v := (fX7_reason f 0 v.toNatClampNeg tb z)) hx hb hr (fun t ht hW => ⟨⟨(fX7_reason f 0 v.toNatClampNeg tb z), U23, rfl, hF.symm, toH ht hP⟩, hS.F ht⟩) hS.2.2 dX7_whyNot_41
  have hF : ((if (fX7_isGuest f v) = 0 then 1 else (if (fX7_isSeat f tb z) = 0 then 1 else 0)) : Nat) = (if (fX7_isGuest f v) = 0 then 1 else (if (fX7_isSeat f tb z) = 0 then 1 else 0)) := rfl
  refine lv_if_eq (tgt := 22) hx hb dX7_whyNot_6 (by decide) (fun c_6 => ?_) (fun c_6 => ?_)
  · have hF := hF.trans (if_pos c_6)
    refine lv_iconst (v := 1) hx hb dX7_whyNot_22 (by decide) ?_
    exact K6 _ hF.symm _ _ hP hD hS  ls (lv_sub hl [0, 1, 2, 3] rfl)
  have hF := hF.trans (if_neg c_6)
  refine lv_aload_n hx hb dX7_whyNot_9 rfl (lv_at hl 0 rfl) ?_
  refine lv_iload_n hx hb dX7_whyNot_10 rfl (lv_at hl 2 rfl) ?_
  refine lv_iload_n hx hb dX7_whyNot_11 rfl (lv_at hl 3 rfl) ?_
  refine k_callb (W.runV (As := [.int tb, .int z]) (rest := [.ref o]) ⟨hx, hb, hml, hown, hts0⟩ (mX7_isSeat l dC dI cI o q0 q1 f x M h tb z hR.2.2.1) (cwV 2 hts0 (gi_V u_981 u_983 us_25 u_7 u_984) rfl rfl rfl (by decide +kernel) ⟨Nat.le_of_ble_eq_true rfl, Nat.le_of_ble_eq_true rfl⟩) (pcR_V (ci := 5) (q0 := 0) hP hK hn rfl rfl) rfl rfl hl.1 rfl (lv_room (Nat.le_of_ble_eq_true rfl)) dX7_whyNot_12 ⟨Nat.zero_le _, Nat.zero_le _⟩) (fun br12 => ?_)
  refine lv_if_eq (tgt := 22) hx hb dX7_whyNot_15 (by decide) (fun c_15 => ?_) (fun c_15 => ?_)
  · have hF := hF.trans (if_pos c_15)
    refine lv_iconst (v := 1) hx hb dX7_whyNot_22 (by decide) ?_
    exact K6 _ hF.symm _ _ hP hD hS  ls (lv_sub hl [0, 1, 2, 3] rfl)
  have hF := hF.trans (if_neg c_15)
  refine lv_iconst (v := 0) hx hb dX7_whyNot_18 (by decide) ?_
  refine lv_goto (tgt := 23) hx hb dX7_whyNot_19 (by decide) ?_
  exact K6 _ hF.symm _ _ hP hD hS  ls (lv_sub hl [0, 1, 2, 3] rfl)

def fX7_ifSat (f : Nat → Int32) (M : Nat → Int32) (v : Int32) (tb : Int32) (z : Int32) : Int32 × ((Nat → Int32)) :=
  (bd ((if (fX7_isGuest f v) = 0 then 1 else (if (fX7_isSeat f tb z) = 0 then 1 else 0)) : Nat) (fun v6_0 => (bd2 (fX7_holds M (nI v6_0)) (fun r23 U23 => (if r23 = 0 then (0, U23) else (if (fX7_reason f 0 v.toNatClampNeg tb z) ≤ 0 then (((fX7_pointsIf f 0 v.toNatClampNeg tb.toNatClampNeg z) + 1000), U23) else ((-1), U23)))))))
abbrev rmX7_ifSat : Room := { frames := 5, cells := 0, slots := 0, locals := 123 }
set_option maxHeartbeats 4000000 in
set_option maxRecDepth 100000 in
theorem mX7_ifSat (l : Launch) (dC : Nat → ClassId) (dI : Nat → Nat → Nat) (cI : ClassId) (o q0 q1 : Nat) (f x M : Nat → Int32) (h : Int64) (v : Int32) (tb : Int32) (z : Int32) (hR : RW f 0) : Met l yX7_ifSat (ws_ yX7_ifSat cX7_ifSat 4 (some .int)) rmX7_ifSat (pcM (dC, dI) [(cI, .int)] (mW cI o q0 q1 f x M h) [.ref o, .int v, .int tb, .int z]) (va_Qi (fun (r9 : Int32) (u9 : (Nat → Int32)) => (r9, u9) = fX7_ifSat f M v tb z) (fun u9 t => va_P (dC, dI) vwCl ((fun (v9 : (Nat → Int32)) => mW cI o q0 q1 f x v9 h) u9) t.heap) (adr (mW cI o q0 q1 f x M h))) 0 0 (adr (mW cI o q0 q1 f x M h)) := by
  refine Met.ofW (cc := cX7_ifSat) (maxL := 4) (ret := (some .int)) (by decide) rfl ?_
  intro p e s m args below meth c s₁ B hml hv
  obtain ⟨ha, hP, hK, hn, hD0⟩ := hv
  have hx := B.exec
  have hb := B.bytes
  have hr := B.returns
  have hts0 := atoms_spec (ws := (ws_ yX7_ifSat cX7_ifSat 4 (some .int))) B.pre
  have hts : ∀ w ∈ lw_all, w.before args s = true := fun w h => hts0 w (List.mem_cons_of_mem _ h)
  have hown : s.vm.findClass RX7 = some m.cls := findClass_of_methodNamed B.named
  have hlocks := B.notSynchronized
  have hD := adr_self hD0
  obtain ⟨A, hA⟩ : ∃ A, A = adr (mW cI o q0 q1 f x M h) := ⟨_, rfl⟩
  rw [← hA] at hD
  have hS : va_S A s.heap s.heap [] := va_S.rf
  obtain ⟨Q, hQ⟩ : ∃ Q, Q = MQ below (va_Qi (fun (r9 : Int32) (u9 : (Nat → Int32)) => (r9, u9) = fX7_ifSat f M v tb z) (fun u9 t => va_P (dC, dI) vwCl ((fun (v9 : (Nat → Int32)) => mW cI o q0 q1 f x v9 h) u9) t.heap) (adr (mW cI o q0 q1 f x M h))) args s 0 0 (adr (mW cI o q0 q1 f x M h)) := ⟨_, rfl⟩
  rw [← hQ]
  rw [← hA] at hQ
  have hl := lv_entry ([.ref o, .int v, .int tb, .int z]) (n := 4) (Nat.le_of_ble_eq_true rfl)
  rw [ha, lg_entry_eq, ← ha]
  generalize (lg_sl ([.ref o, .int v, .int tb, .int z]) ++ List.replicate (4 - (lg_sl ([.ref o, .int v, .int tb, .int z])).length) Slot.unset).toArray = ls at hl ⊢
  have hl : lv_has ls 4 [(0, .ref o), (1, .int v), (2, .int tb), (3, .int z)] := hl
  show W p l e rmX7_ifSat s m args below meth c s.heap [] 0 0 Q (F0 m 0 ls [])
  have hF : fX7_ifSat f M v tb z = fX7_ifSat f M v tb z := rfl
  refine lv_aload_n hx hb dX7_ifSat_0 rfl (lv_at hl 0 rfl) ?_
  refine lv_aload_n hx hb dX7_ifSat_1 rfl (lv_at hl 0 rfl) ?_
  refine lv_iload_n hx hb dX7_ifSat_2 rfl (lv_at hl 1 rfl) ?_
  refine k_callb (W.runV (As := [.int v]) (rest := [.ref o]) ⟨hx, hb, hml, hown, hts0⟩ (mX7_isGuest l dC dI cI o q0 q1 f x M h v) (cwV 1 hts0 (gi_V u_928 u_930 us_19 u_7 u_931) rfl rfl rfl (by decide +kernel) ⟨Nat.le_of_ble_eq_true rfl, Nat.le_of_ble_eq_true rfl⟩) (pcR_V (ci := 5) (q0 := 0) hP hK hn rfl rfl) rfl rfl hl.1 rfl (lv_room (Nat.le_of_ble_eq_true rfl)) dX7_ifSat_3 ⟨Nat.zero_le _, Nat.zero_le _⟩) (fun br3 => ?_)
  have K6 : ∀ (v6_0 : Nat), v6_0 = (if (fX7_isGuest f v) = 0 then 1 else (if (fX7_isSeat f tb z) = 0 then 1 else 0)) → ∀ (H : Heap) (locs : List Loc), va_P (dC, dI) vwCl (mW cI o q0 q1 f x M h) H → va_D A (mW cI o q0 q1 f x M h) → va_S A s.heap H locs → ∀ (ls : Array Slot), lv_has ls 4 [(0, .ref o), (1, .int v), (2, .int tb), (3, .int z)] → W p l e rmX7_ifSat s m args below meth c H locs 0 0 Q (F0 m 23 ls [.int (nI v6_0), .ref o]) := by
    intro v6_0 hz6 H locs hP hD hS ls hl
    have hz := hz6
    have bz6 : (nI v6_0 : Int32) = 0 ∨ nI v6_0 = 1 := by rw [hz]; (repeat' split); all_goals first | exact Or.inl rfl | exact Or.inr rfl
    have hF := bd_at hF hz
    refine k_muti (Wd := (fun (v9 : (Nat → Int32)) => mW cI o q0 q1 f x v9 h)) (va_runV (As := [.int (nI v6_0)]) (rest := []) ⟨hx, hb, hml, hown, hts0⟩ (mX7_holds l dC dI cI o q0 q1 f x M h (nI v6_0)) (cwV 1 hts0 (gi_V u_908 u_910 us_15 u_7 u_911) rfl rfl rfl (by decide +kernel) ⟨Nat.le_of_ble_eq_true rfl, Nat.le_of_ble_eq_true rfl⟩) (pcM_V (ci := 5) (q0 := 0) hP hK hn hD rfl rfl) rfl rfl hl.1 rfl (lv_room (Nat.le_of_ble_eq_true rfl)) dX7_ifSat_23 ⟨Nat.zero_le _, Nat.zero_le _⟩) hP hD hS [0, 1, 2] rfl rfl (fun _ => rfl) (fun r23 U23 H locs hU23 hP hD hS => ?_)
    obtain ⟨hU23, br23⟩ := hU23
    have hP : va_P (dC, dI) vwCl (mW cI o q0 q1 f x U23 h) H := hP
    have hD : va_D A (mW cI o q0 q1 f x U23 h) := hD
    have hF := bd2_at hF hU23
    refine lv_if_ne (tgt := 31) hx hb dX7_ifSat_26 (by decide) (fun c_26 => ?_) (fun c_26 => ?_)
    · have hF := hF.trans (if_neg c_26)
      have hv0 := holds_ok hU23 c_26
      rw [hz6] at hv0
      have k2 : ¬ (fX7_isGuest f v) = 0 := fun z => by rw [if_pos z] at hv0; exact absurd hv0 (by decide)
      obtain ⟨hvn, hvl, hvb⟩ := in_nat (v := v) (x := f 0) (n := 16) hR.2.1 (by decide) k2
      have k3 : ¬ fX7_isSeat f tb z = 0 := fun z9 => by rw [if_neg k2, if_pos z9] at hv0; exact absurd hv0 (by decide)
      obtain ⟨htn, htb, htl⟩ := isSeat_t hR.2.2.1 k3
      refine lv_aload_n hx hb dX7_ifSat_31 rfl (lv_at hl 0 rfl) ?_
      refine lv_iconst (v := 0) hx hb dX7_ifSat_32 (by decide) ?_
      refine lv_iload_n hx hb dX7_ifSat_33 rfl (lv_at hl 1 rfl) ?_
      refine lv_tope (y := (nI v.toNatClampNeg)) hvn ?_
      refine lv_iload_n hx hb dX7_ifSat_34 rfl (lv_at hl 2 rfl) ?_
      refine lv_iload_n hx hb dX7_ifSat_35 rfl (lv_at hl 3 rfl) ?_
      refine k_calli (W.runV (As := [.int 0, .int (nI v.toNatClampNeg), .int tb, .int z]) (rest := []) ⟨hx, hb, hml, hown, hts0⟩ (mX7_reason l dC dI cI o q0 q1 f x U23 h 0 v.toNatClampNeg tb z (by first | omega | assumption) (by first | omega | assumption)) (cwV 4 hts0 (gi_V u_989 u_991 us_27 u_7 u_992) rfl rfl rfl (by decide +kernel) ⟨Nat.le_of_ble_eq_true rfl, Nat.le_of_ble_eq_true rfl⟩) (pcR_V (ci := 5) (q0 := 0) hP hK hn rfl rfl) rfl rfl hl.1 rfl (lv_room (Nat.le_of_ble_eq_true rfl)) dX7_ifSat_36 ⟨Nat.zero_le _, Nat.zero_le _⟩) ?_
      refine lv_if_le (tgt := 46) hx hb dX7_ifSat_39 (by decide) (fun c_39 => ?_) (fun c_39 => ?_)
      · have hF := hF.trans (if_pos c_39)
        refine lv_aload_n hx hb dX7_ifSat_46 rfl (lv_at hl 0 rfl) ?_
        refine lv_iconst (v := 0) hx hb dX7_ifSat_47 (by decide) ?_
        refine lv_iload_n hx hb dX7_ifSat_48 rfl (lv_at hl 1 rfl) ?_
        refine lv_tope (y := (nI v.toNatClampNeg)) hvn ?_
        refine lv_iload_n hx hb dX7_ifSat_49 rfl (lv_at hl 2 rfl) ?_
        refine lv_tope (y := (nI tb.toNatClampNeg)) htn ?_
        refine lv_iload_n hx hb dX7_ifSat_50 rfl (lv_at hl 3 rfl) ?_
        refine k_same (Wd := (fun (v9 : (Nat → Int32)) => mW cI o q0 q1 v9 x U23 h)) (va_runV (As := [.int 0, .int (nI v.toNatClampNeg), .int (nI tb.toNatClampNeg), .int z]) (rest := []) ⟨hx, hb, hml, hown, hts0⟩ (mX7_pointsIf l dC dI cI o q0 q1 f x U23 h 0 v.toNatClampNeg tb.toNatClampNeg z (by first | omega | assumption) (by first | omega | assumption) (by first | omega | assumption)) (cwV 4 hts0 (gi_V u_1040 u_1042 us_36 u_7 u_1043) rfl rfl rfl (by decide +kernel) ⟨Nat.le_of_ble_eq_true rfl, Nat.le_of_ble_eq_true rfl⟩) (pcM_V (ci := 5) (q0 := 0) hP hK hn hD rfl rfl) rfl rfl hl.1 rfl (lv_room (Nat.le_of_ble_eq_true rfl)) dX7_ifSat_51 ⟨Nat.zero_le _, Nat.zero_le _⟩) hP hD hS [0, 1, 2] rfl rfl (fun _ => rfl) (fun H locs hP hD hS => ?_)
        have hP : va_P (dC, dI) vwCl (mW cI o q0 q1 f x U23 h) H := hP
        have hD : va_D A (mW cI o q0 q1 f x U23 h) := hD
        refine lv_sipush (v := 1000) hx hb dX7_ifSat_54 (by decide) ?_
        refine lv_iadd hx hb dX7_ifSat_57 ?_
        rw [hQ]
        exact W.iret (v := ((fX7_pointsIf f 0 v.toNatClampNeg tb.toNatClampNeg z) + 1000)) hx hb hr (fun t ht hW => ⟨⟨((fX7_pointsIf f 0 v.toNatClampNeg tb.toNatClampNeg z) + 1000), U23, rfl, hF.symm, toH ht hP⟩, hS.F ht⟩) hS.2.2 dX7_ifSat_58
      have hF := hF.trans (if_neg c_39)
      refine lv_iconst (v := (-1)) hx hb dX7_ifSat_42 (by decide) ?_
      refine lv_goto (tgt := 58) hx hb dX7_ifSat_43 (by decide) ?_
      rw [hQ]
      exact W.iret (v := (-1)) hx hb hr (fun t ht hW => ⟨⟨(-1), U23, rfl, hF.symm, toH ht hP⟩, hS.F ht⟩) hS.2.2 dX7_ifSat_58
    have hF := hF.trans (if_pos c_26)
    refine lv_iconst (v := 0) hx hb dX7_ifSat_29 (by decide) ?_
    rw [hQ]
    exact W.iret (v := 0) hx hb hr (fun t ht hW => ⟨⟨0, U23, rfl, hF.symm, toH ht hP⟩, hS.F ht⟩) hS.2.2 dX7_ifSat_30
  have hF : ((if (fX7_isGuest f v) = 0 then 1 else (if (fX7_isSeat f tb z) = 0 then 1 else 0)) : Nat) = (if (fX7_isGuest f v) = 0 then 1 else (if (fX7_isSeat f tb z) = 0 then 1 else 0)) := rfl
  refine lv_if_eq (tgt := 22) hx hb dX7_ifSat_6 (by decide) (fun c_6 => ?_) (fun c_6 => ?_)
  · have hF := hF.trans (if_pos c_6)
    refine lv_iconst (v := 1) hx hb dX7_ifSat_22 (by decide) ?_
    exact K6 _ hF.symm _ _ hP hD hS  ls (lv_sub hl [0, 1, 2, 3] rfl)
  have hF := hF.trans (if_neg c_6)
  refine lv_aload_n hx hb dX7_ifSat_9 rfl (lv_at hl 0 rfl) ?_
  refine lv_iload_n hx hb dX7_ifSat_10 rfl (lv_at hl 2 rfl) ?_
  refine lv_iload_n hx hb dX7_ifSat_11 rfl (lv_at hl 3 rfl) ?_
  refine k_callb (W.runV (As := [.int tb, .int z]) (rest := [.ref o]) ⟨hx, hb, hml, hown, hts0⟩ (mX7_isSeat l dC dI cI o q0 q1 f x M h tb z hR.2.2.1) (cwV 2 hts0 (gi_V u_981 u_983 us_25 u_7 u_984) rfl rfl rfl (by decide +kernel) ⟨Nat.le_of_ble_eq_true rfl, Nat.le_of_ble_eq_true rfl⟩) (pcR_V (ci := 5) (q0 := 0) hP hK hn rfl rfl) rfl rfl hl.1 rfl (lv_room (Nat.le_of_ble_eq_true rfl)) dX7_ifSat_12 ⟨Nat.zero_le _, Nat.zero_le _⟩) (fun br12 => ?_)
  refine lv_if_eq (tgt := 22) hx hb dX7_ifSat_15 (by decide) (fun c_15 => ?_) (fun c_15 => ?_)
  · have hF := hF.trans (if_pos c_15)
    refine lv_iconst (v := 1) hx hb dX7_ifSat_22 (by decide) ?_
    exact K6 _ hF.symm _ _ hP hD hS  ls (lv_sub hl [0, 1, 2, 3] rfl)
  have hF := hF.trans (if_neg c_15)
  refine lv_iconst (v := 0) hx hb dX7_ifSat_18 (by decide) ?_
  refine lv_goto (tgt := 23) hx hb dX7_ifSat_19 (by decide) ?_
  exact K6 _ hF.symm _ _ hP hD hS  ls (lv_sub hl [0, 1, 2, 3] rfl)

def fX7_bestSeat (f : Nat → Int32) (M : Nat → Int32) (v : Int32) : Int32 × ((Nat → Int32)) :=
  (bd ((if (fX7_isGuest f v) = 0 then 1 else 0) : Nat) (fun v6_0 => (bd2 (fX7_holds M (nI v6_0)) (fun r14 U14 => (if r14 = 0 then (0, U14) else ((fX7_best f 0 v.toNatClampNeg), U14))))))
abbrev rmX7_bestSeat : Room := { frames := 6, cells := 0, slots := 0, locals := 149 }
set_option maxHeartbeats 4000000 in
set_option maxRecDepth 100000 in
theorem mX7_bestSeat (l : Launch) (dC : Nat → ClassId) (dI : Nat → Nat → Nat) (cI : ClassId) (o q0 q1 : Nat) (f x M : Nat → Int32) (h : Int64) (v : Int32) (hR : RW f 0) : Met l yX7_bestSeat (ws_ yX7_bestSeat cX7_bestSeat 2 (some .int)) rmX7_bestSeat (pcM (dC, dI) [(cI, .int)] (mW cI o q0 q1 f x M h) [.ref o, .int v]) (va_Qi (fun (r9 : Int32) (u9 : (Nat → Int32)) => (r9, u9) = fX7_bestSeat f M v) (fun u9 t => va_P (dC, dI) vwCl ((fun (v9 : (Nat → Int32)) => mW cI o q0 q1 f x v9 h) u9) t.heap) (adr (mW cI o q0 q1 f x M h))) 0 0 (adr (mW cI o q0 q1 f x M h)) := by
  refine Met.ofW (cc := cX7_bestSeat) (maxL := 2) (ret := (some .int)) (by decide) rfl ?_
  intro p e s m args below meth c s₁ B hml hv
  obtain ⟨ha, hP, hK, hn, hD0⟩ := hv
  have hx := B.exec
  have hb := B.bytes
  have hr := B.returns
  have hts0 := atoms_spec (ws := (ws_ yX7_bestSeat cX7_bestSeat 2 (some .int))) B.pre
  have hts : ∀ w ∈ lw_all, w.before args s = true := fun w h => hts0 w (List.mem_cons_of_mem _ h)
  have hown : s.vm.findClass RX7 = some m.cls := findClass_of_methodNamed B.named
  have hlocks := B.notSynchronized
  have hD := adr_self hD0
  obtain ⟨A, hA⟩ : ∃ A, A = adr (mW cI o q0 q1 f x M h) := ⟨_, rfl⟩
  rw [← hA] at hD
  have hS : va_S A s.heap s.heap [] := va_S.rf
  obtain ⟨Q, hQ⟩ : ∃ Q, Q = MQ below (va_Qi (fun (r9 : Int32) (u9 : (Nat → Int32)) => (r9, u9) = fX7_bestSeat f M v) (fun u9 t => va_P (dC, dI) vwCl ((fun (v9 : (Nat → Int32)) => mW cI o q0 q1 f x v9 h) u9) t.heap) (adr (mW cI o q0 q1 f x M h))) args s 0 0 (adr (mW cI o q0 q1 f x M h)) := ⟨_, rfl⟩
  rw [← hQ]
  rw [← hA] at hQ
  have hl := lv_entry ([.ref o, .int v]) (n := 2) (Nat.le_of_ble_eq_true rfl)
  rw [ha, lg_entry_eq, ← ha]
  generalize (lg_sl ([.ref o, .int v]) ++ List.replicate (2 - (lg_sl ([.ref o, .int v])).length) Slot.unset).toArray = ls at hl ⊢
  have hl : lv_has ls 2 [(0, .ref o), (1, .int v)] := hl
  show W p l e rmX7_bestSeat s m args below meth c s.heap [] 0 0 Q (F0 m 0 ls [])
  have hF : fX7_bestSeat f M v = fX7_bestSeat f M v := rfl
  refine lv_aload_n hx hb dX7_bestSeat_0 rfl (lv_at hl 0 rfl) ?_
  refine lv_aload_n hx hb dX7_bestSeat_1 rfl (lv_at hl 0 rfl) ?_
  refine lv_iload_n hx hb dX7_bestSeat_2 rfl (lv_at hl 1 rfl) ?_
  refine k_callb (W.runV (As := [.int v]) (rest := [.ref o]) ⟨hx, hb, hml, hown, hts0⟩ (mX7_isGuest l dC dI cI o q0 q1 f x M h v) (cwV 1 hts0 (gi_V u_928 u_930 us_19 u_7 u_931) rfl rfl rfl (by decide +kernel) ⟨Nat.le_of_ble_eq_true rfl, Nat.le_of_ble_eq_true rfl⟩) (pcR_V (ci := 5) (q0 := 0) hP hK hn rfl rfl) rfl rfl hl.1 rfl (lv_room (Nat.le_of_ble_eq_true rfl)) dX7_bestSeat_3 ⟨Nat.zero_le _, Nat.zero_le _⟩) (fun br3 => ?_)
  have K6 : ∀ (v6_0 : Nat), v6_0 = (if (fX7_isGuest f v) = 0 then 1 else 0) → ∀ (H : Heap) (locs : List Loc), va_P (dC, dI) vwCl (mW cI o q0 q1 f x M h) H → va_D A (mW cI o q0 q1 f x M h) → va_S A s.heap H locs → ∀ (ls : Array Slot), lv_has ls 2 [(0, .ref o), (1, .int v)] → W p l e rmX7_bestSeat s m args below meth c H locs 0 0 Q (F0 m 14 ls [.int (nI v6_0), .ref o]) := by
    intro v6_0 hz6 H locs hP hD hS ls hl
    have hz := hz6
    have bz6 : (nI v6_0 : Int32) = 0 ∨ nI v6_0 = 1 := by rw [hz]; (repeat' split); all_goals first | exact Or.inl rfl | exact Or.inr rfl
    have hF := bd_at hF hz
    refine k_muti (Wd := (fun (v9 : (Nat → Int32)) => mW cI o q0 q1 f x v9 h)) (va_runV (As := [.int (nI v6_0)]) (rest := []) ⟨hx, hb, hml, hown, hts0⟩ (mX7_holds l dC dI cI o q0 q1 f x M h (nI v6_0)) (cwV 1 hts0 (gi_V u_908 u_910 us_15 u_7 u_911) rfl rfl rfl (by decide +kernel) ⟨Nat.le_of_ble_eq_true rfl, Nat.le_of_ble_eq_true rfl⟩) (pcM_V (ci := 5) (q0 := 0) hP hK hn hD rfl rfl) rfl rfl hl.1 rfl (lv_room (Nat.le_of_ble_eq_true rfl)) dX7_bestSeat_14 ⟨Nat.zero_le _, Nat.zero_le _⟩) hP hD hS [0, 1, 2] rfl rfl (fun _ => rfl) (fun r14 U14 H locs hU14 hP hD hS => ?_)
    obtain ⟨hU14, br14⟩ := hU14
    have hP : va_P (dC, dI) vwCl (mW cI o q0 q1 f x U14 h) H := hP
    have hD : va_D A (mW cI o q0 q1 f x U14 h) := hD
    have hF := bd2_at hF hU14
    refine lv_if_eq (tgt := 29) hx hb dX7_bestSeat_17 (by decide) (fun c_17 => ?_) (fun c_17 => ?_)
    · have hF := hF.trans (if_pos c_17)
      refine lv_iconst (v := 0) hx hb dX7_bestSeat_29 (by decide) ?_
      rw [hQ]
      exact W.iret (v := 0) hx hb hr (fun t ht hW => ⟨⟨0, U14, rfl, hF.symm, toH ht hP⟩, hS.F ht⟩) hS.2.2 dX7_bestSeat_30
    have hF := hF.trans (if_neg c_17)
    have hv0 := holds_ok hU14 c_17
    rw [hz6] at hv0
    have k2 : ¬ (fX7_isGuest f v) = 0 := fun z => by rw [if_pos z] at hv0; exact absurd hv0 (by decide)
    obtain ⟨hvn, hvl, hvb⟩ := in_nat (v := v) (x := f 0) (n := 16) hR.2.1 (by decide) k2
    refine lv_aload_n hx hb dX7_bestSeat_20 rfl (lv_at hl 0 rfl) ?_
    refine lv_iconst (v := 0) hx hb dX7_bestSeat_21 (by decide) ?_
    refine lv_iload_n hx hb dX7_bestSeat_22 rfl (lv_at hl 1 rfl) ?_
    refine lv_tope (y := (nI v.toNatClampNeg)) hvn ?_
    refine k_same (Wd := (fun (v9 : (Nat → Int32)) => mW cI o q0 q1 v9 x U14 h)) (va_runV (As := [.int 0, .int (nI v.toNatClampNeg)]) (rest := []) ⟨hx, hb, hml, hown, hts0⟩ (mX7_best l dC dI cI o q0 q1 f x U14 h 0 v.toNatClampNeg (by first | omega | assumption) (by first | omega | assumption)) (cwV 2 hts0 (gi_V u_1036 u_1038 us_35 u_7 u_1039) rfl rfl rfl (by decide +kernel) ⟨Nat.le_of_ble_eq_true rfl, Nat.le_of_ble_eq_true rfl⟩) (pcM_V (ci := 5) (q0 := 0) hP hK hn hD rfl rfl) rfl rfl hl.1 rfl (lv_room (Nat.le_of_ble_eq_true rfl)) dX7_bestSeat_23 ⟨Nat.zero_le _, Nat.zero_le _⟩) hP hD hS [0, 1, 2] rfl rfl (fun _ => rfl) (fun H locs hP hD hS => ?_)
    have hP : va_P (dC, dI) vwCl (mW cI o q0 q1 f x U14 h) H := hP
    have hD : va_D A (mW cI o q0 q1 f x U14 h) := hD
    refine lv_goto (tgt := 30) hx hb dX7_bestSeat_26 (by decide) ?_
    rw [hQ]
    exact W.iret (v := (fX7_best f 0 v.toNatClampNeg)) hx hb hr (fun t ht hW => ⟨⟨(fX7_best f 0 v.toNatClampNeg), U14, rfl, hF.symm, toH ht hP⟩, hS.F ht⟩) hS.2.2 dX7_bestSeat_30
  have hF : ((if (fX7_isGuest f v) = 0 then 1 else 0) : Nat) = (if (fX7_isGuest f v) = 0 then 1 else 0) := rfl
  refine lv_if_eq (tgt := 13) hx hb dX7_bestSeat_6 (by decide) (fun c_6 => ?_) (fun c_6 => ?_)
  · have hF := hF.trans (if_pos c_6)
    refine lv_iconst (v := 1) hx hb dX7_bestSeat_13 (by decide) ?_
    exact K6 _ hF.symm _ _ hP hD hS  ls (lv_sub hl [0, 1] rfl)
  have hF := hF.trans (if_neg c_6)
  refine lv_iconst (v := 0) hx hb dX7_bestSeat_9 (by decide) ?_
  refine lv_goto (tgt := 14) hx hb dX7_bestSeat_10 (by decide) ?_
  exact K6 _ hF.symm _ _ hP hD hS  ls (lv_sub hl [0, 1] rfl)

def fX7_ifFeud (f : Nat → Int32) (M : Nat → Int32) (v : Int32) (a : Int32) : Int32 × ((Nat → Int32)) :=
  (bd ((if (fX7_arePair v a) = 0 then 1 else 0) : Nat) (fun v6_0 => (bd2 (fX7_holds M (nI v6_0)) (fun r14 U14 => (if r14 = 0 then (0, U14) else ((fX7_standing f v a), U14))))))
abbrev rmX7_ifFeud : Room := { frames := 5, cells := 0, slots := 0, locals := 120 }
set_option maxHeartbeats 4000000 in
set_option maxRecDepth 100000 in
theorem mX7_ifFeud (l : Launch) (dC : Nat → ClassId) (dI : Nat → Nat → Nat) (cI : ClassId) (o q0 q1 : Nat) (f x M : Nat → Int32) (h : Int64) (v : Int32) (a : Int32) (hR : RW f 0) : Met l yX7_ifFeud (ws_ yX7_ifFeud cX7_ifFeud 3 (some .int)) rmX7_ifFeud (pcM (dC, dI) [(cI, .int)] (mW cI o q0 q1 f x M h) [.ref o, .int v, .int a]) (va_Qi (fun (r9 : Int32) (u9 : (Nat → Int32)) => (r9, u9) = fX7_ifFeud f M v a) (fun u9 t => va_P (dC, dI) vwCl ((fun (v9 : (Nat → Int32)) => mW cI o q0 q1 f x v9 h) u9) t.heap) (adr (mW cI o q0 q1 f x M h))) 0 0 (adr (mW cI o q0 q1 f x M h)) := by
  refine Met.ofW (cc := cX7_ifFeud) (maxL := 3) (ret := (some .int)) (by decide) rfl ?_
  intro p e s m args below meth c s₁ B hml hv
  obtain ⟨ha, hP, hK, hn, hD0⟩ := hv
  have hx := B.exec
  have hb := B.bytes
  have hr := B.returns
  have hts0 := atoms_spec (ws := (ws_ yX7_ifFeud cX7_ifFeud 3 (some .int))) B.pre
  have hts : ∀ w ∈ lw_all, w.before args s = true := fun w h => hts0 w (List.mem_cons_of_mem _ h)
  have hown : s.vm.findClass RX7 = some m.cls := findClass_of_methodNamed B.named
  have hlocks := B.notSynchronized
  have hD := adr_self hD0
  obtain ⟨A, hA⟩ : ∃ A, A = adr (mW cI o q0 q1 f x M h) := ⟨_, rfl⟩
  rw [← hA] at hD
  have hS : va_S A s.heap s.heap [] := va_S.rf
  obtain ⟨Q, hQ⟩ : ∃ Q, Q = MQ below (va_Qi (fun (r9 : Int32) (u9 : (Nat → Int32)) => (r9, u9) = fX7_ifFeud f M v a) (fun u9 t => va_P (dC, dI) vwCl ((fun (v9 : (Nat → Int32)) => mW cI o q0 q1 f x v9 h) u9) t.heap) (adr (mW cI o q0 q1 f x M h))) args s 0 0 (adr (mW cI o q0 q1 f x M h)) := ⟨_, rfl⟩
  rw [← hQ]
  rw [← hA] at hQ
  have hl := lv_entry ([.ref o, .int v, .int a]) (n := 3) (Nat.le_of_ble_eq_true rfl)
  rw [ha, lg_entry_eq, ← ha]
  generalize (lg_sl ([.ref o, .int v, .int a]) ++ List.replicate (3 - (lg_sl ([.ref o, .int v, .int a])).length) Slot.unset).toArray = ls at hl ⊢
  have hl : lv_has ls 3 [(0, .ref o), (1, .int v), (2, .int a)] := hl
  show W p l e rmX7_ifFeud s m args below meth c s.heap [] 0 0 Q (F0 m 0 ls [])
  have hF : fX7_ifFeud f M v a = fX7_ifFeud f M v a := rfl
  refine lv_aload_n hx hb dX7_ifFeud_0 rfl (lv_at hl 0 rfl) ?_
  refine lv_iload_n hx hb dX7_ifFeud_1 rfl (lv_at hl 1 rfl) ?_
  refine lv_iload_n hx hb dX7_ifFeud_2 rfl (lv_at hl 2 rfl) ?_
  refine k_callb (W.runS (As := [.int v, .int a]) (rest := [.ref o]) ⟨hx, hb, hml, hown, hts0⟩ (mX7_arePair l dC dI  v a) (va_cwS 2 hts0 (gi_S u_944 u_945 u_7 u_946) rfl rfl rfl (by decide +kernel) ⟨Nat.le_of_ble_eq_true rfl, Nat.le_of_ble_eq_true rfl⟩) (pcR_S (hP.sub (ws' := []) [] rfl) (hK.sub (tys' := []) [] rfl) hn) rfl rfl hl.1 rfl (lv_room (Nat.le_of_ble_eq_true rfl)) dX7_ifFeud_3 ⟨Nat.zero_le _, Nat.zero_le _⟩) (fun br3 => ?_)
  have K6 : ∀ (v6_0 : Nat), v6_0 = (if (fX7_arePair v a) = 0 then 1 else 0) → ∀ (H : Heap) (locs : List Loc), va_P (dC, dI) vwCl (mW cI o q0 q1 f x M h) H → va_D A (mW cI o q0 q1 f x M h) → va_S A s.heap H locs → ∀ (ls : Array Slot), lv_has ls 3 [(0, .ref o), (1, .int v), (2, .int a)] → W p l e rmX7_ifFeud s m args below meth c H locs 0 0 Q (F0 m 14 ls [.int (nI v6_0), .ref o]) := by
    intro v6_0 hz6 H locs hP hD hS ls hl
    have hz := hz6
    have bz6 : (nI v6_0 : Int32) = 0 ∨ nI v6_0 = 1 := by rw [hz]; (repeat' split); all_goals first | exact Or.inl rfl | exact Or.inr rfl
    have hF := bd_at hF hz
    refine k_muti (Wd := (fun (v9 : (Nat → Int32)) => mW cI o q0 q1 f x v9 h)) (va_runV (As := [.int (nI v6_0)]) (rest := []) ⟨hx, hb, hml, hown, hts0⟩ (mX7_holds l dC dI cI o q0 q1 f x M h (nI v6_0)) (cwV 1 hts0 (gi_V u_908 u_910 us_15 u_7 u_911) rfl rfl rfl (by decide +kernel) ⟨Nat.le_of_ble_eq_true rfl, Nat.le_of_ble_eq_true rfl⟩) (pcM_V (ci := 5) (q0 := 0) hP hK hn hD rfl rfl) rfl rfl hl.1 rfl (lv_room (Nat.le_of_ble_eq_true rfl)) dX7_ifFeud_14 ⟨Nat.zero_le _, Nat.zero_le _⟩) hP hD hS [0, 1, 2] rfl rfl (fun _ => rfl) (fun r14 U14 H locs hU14 hP hD hS => ?_)
    obtain ⟨hU14, br14⟩ := hU14
    have hP : va_P (dC, dI) vwCl (mW cI o q0 q1 f x U14 h) H := hP
    have hD : va_D A (mW cI o q0 q1 f x U14 h) := hD
    have hF := bd2_at hF hU14
    refine lv_if_eq (tgt := 29) hx hb dX7_ifFeud_17 (by decide) (fun c_17 => ?_) (fun c_17 => ?_)
    · have hF := hF.trans (if_pos c_17)
      refine lv_iconst (v := 0) hx hb dX7_ifFeud_29 (by decide) ?_
      rw [hQ]
      exact W.iret (v := 0) hx hb hr (fun t ht hW => ⟨⟨0, U14, rfl, hF.symm, toH ht hP⟩, hS.F ht⟩) hS.2.2 dX7_ifFeud_30
    have hF := hF.trans (if_neg c_17)
    refine lv_aload_n hx hb dX7_ifFeud_20 rfl (lv_at hl 0 rfl) ?_
    refine lv_iload_n hx hb dX7_ifFeud_21 rfl (lv_at hl 1 rfl) ?_
    refine lv_iload_n hx hb dX7_ifFeud_22 rfl (lv_at hl 2 rfl) ?_
    refine k_calli (W.runV (As := [.int v, .int a]) (rest := []) ⟨hx, hb, hml, hown, hts0⟩ (mX7_standing l dC dI cI o q0 q1 f x U14 h v a (by first | omega | assumption)) (cwV 2 hts0 (gi_V u_1164 u_1166 us_49 u_7 u_1167) rfl rfl rfl (by decide +kernel) ⟨Nat.le_of_ble_eq_true rfl, Nat.le_of_ble_eq_true rfl⟩) (pcR_V (ci := 5) (q0 := 0) hP hK hn rfl rfl) rfl rfl hl.1 rfl (lv_room (Nat.le_of_ble_eq_true rfl)) dX7_ifFeud_23 ⟨Nat.zero_le _, Nat.zero_le _⟩) ?_
    refine lv_goto (tgt := 30) hx hb dX7_ifFeud_26 (by decide) ?_
    rw [hQ]
    exact W.iret (v := (fX7_standing f v a)) hx hb hr (fun t ht hW => ⟨⟨(fX7_standing f v a), U14, rfl, hF.symm, toH ht hP⟩, hS.F ht⟩) hS.2.2 dX7_ifFeud_30
  have hF : ((if (fX7_arePair v a) = 0 then 1 else 0) : Nat) = (if (fX7_arePair v a) = 0 then 1 else 0) := rfl
  refine lv_if_eq (tgt := 13) hx hb dX7_ifFeud_6 (by decide) (fun c_6 => ?_) (fun c_6 => ?_)
  · have hF := hF.trans (if_pos c_6)
    refine lv_iconst (v := 1) hx hb dX7_ifFeud_13 (by decide) ?_
    exact K6 _ hF.symm _ _ hP hD hS  ls (lv_sub hl [0, 1, 2] rfl)
  have hF := hF.trans (if_neg c_6)
  refine lv_iconst (v := 0) hx hb dX7_ifFeud_9 (by decide) ?_
  refine lv_goto (tgt := 14) hx hb dX7_ifFeud_10 (by decide) ?_
  exact K6 _ hF.symm _ _ hP hD hS  ls (lv_sub hl [0, 1, 2] rfl)

def fX7_ifSeated (f : Nat → Int32) (M : Nat → Int32) (v : Int32) : Int32 × ((Nat → Int32) × (Nat → Int32)) :=
  (bd ((if (fX7_in v 0 1) = 0 then 1 else 0) : Nat) (fun v7_0 => (bd2 (fX7_holds M (nI v7_0)) (fun r15 U15 => (if r15 = 0 then (0, (f, U15)) else (bd2 (fX7_seatedIf f v) (fun r23 U23 => (r23, (U23, U15)))))))))
abbrev rmX7_ifSeated : Room := { frames := 8, cells := 0, slots := 0, locals := 195 }
set_option maxHeartbeats 4000000 in
set_option maxRecDepth 100000 in
theorem mX7_ifSeated (l : Launch) (dC : Nat → ClassId) (dI : Nat → Nat → Nat) (cI : ClassId) (o q0 q1 : Nat) (f x M : Nat → Int32) (h : Int64) (v : Int32) (hR : RW f 0) (G9 : Nat) (L9 : List Nat) (hL : RO f 0 G9 L9) : Met l yX7_ifSeated (ws_ yX7_ifSeated cX7_ifSeated 2 (some .int)) rmX7_ifSeated (pcM (dC, dI) [(cI, .int)] (mW cI o q0 q1 f x M h) [.ref o, .int v]) (va_Qi (fun (r9 : Int32) (u9 : (Nat → Int32) × (Nat → Int32)) => (r9, u9) = fX7_ifSeated f M v) (fun u9 t => va_P (dC, dI) vwCl ((fun (v9 : (Nat → Int32) × (Nat → Int32)) => mW cI o q0 q1 v9.1 x v9.2 h) u9) t.heap) (adr (mW cI o q0 q1 f x M h))) 0 0 (adr (mW cI o q0 q1 f x M h)) := by
  refine Met.ofW (cc := cX7_ifSeated) (maxL := 2) (ret := (some .int)) (by decide) rfl ?_
  intro p e s m args below meth c s₁ B hml hv
  obtain ⟨ha, hP, hK, hn, hD0⟩ := hv
  have hx := B.exec
  have hb := B.bytes
  have hr := B.returns
  have hts0 := atoms_spec (ws := (ws_ yX7_ifSeated cX7_ifSeated 2 (some .int))) B.pre
  have hts : ∀ w ∈ lw_all, w.before args s = true := fun w h => hts0 w (List.mem_cons_of_mem _ h)
  have hown : s.vm.findClass RX7 = some m.cls := findClass_of_methodNamed B.named
  have hlocks := B.notSynchronized
  have hD := adr_self hD0
  obtain ⟨A, hA⟩ : ∃ A, A = adr (mW cI o q0 q1 f x M h) := ⟨_, rfl⟩
  rw [← hA] at hD
  have hS : va_S A s.heap s.heap [] := va_S.rf
  obtain ⟨Q, hQ⟩ : ∃ Q, Q = MQ below (va_Qi (fun (r9 : Int32) (u9 : (Nat → Int32) × (Nat → Int32)) => (r9, u9) = fX7_ifSeated f M v) (fun u9 t => va_P (dC, dI) vwCl ((fun (v9 : (Nat → Int32) × (Nat → Int32)) => mW cI o q0 q1 v9.1 x v9.2 h) u9) t.heap) (adr (mW cI o q0 q1 f x M h))) args s 0 0 (adr (mW cI o q0 q1 f x M h)) := ⟨_, rfl⟩
  rw [← hQ]
  rw [← hA] at hQ
  have hl := lv_entry ([.ref o, .int v]) (n := 2) (Nat.le_of_ble_eq_true rfl)
  rw [ha, lg_entry_eq, ← ha]
  generalize (lg_sl ([.ref o, .int v]) ++ List.replicate (2 - (lg_sl ([.ref o, .int v])).length) Slot.unset).toArray = ls at hl ⊢
  have hl : lv_has ls 2 [(0, .ref o), (1, .int v)] := hl
  show W p l e rmX7_ifSeated s m args below meth c s.heap [] 0 0 Q (F0 m 0 ls [])
  have hF : fX7_ifSeated f M v = fX7_ifSeated f M v := rfl
  refine lv_aload_n hx hb dX7_ifSeated_0 rfl (lv_at hl 0 rfl) ?_
  refine lv_iload_n hx hb dX7_ifSeated_1 rfl (lv_at hl 1 rfl) ?_
  refine lv_iconst (v := 0) hx hb dX7_ifSeated_2 (by decide) ?_
  refine lv_iconst (v := 1) hx hb dX7_ifSeated_3 (by decide) ?_
  refine k_callb (W.runS (As := [.int v, .int 0, .int 1]) (rest := [.ref o]) ⟨hx, hb, hml, hown, hts0⟩ (mX7_in l dC dI  v 0 1) (va_cwS 3 hts0 (gi_S u_905 u_906 u_7 u_907) rfl rfl rfl (by decide +kernel) ⟨Nat.le_of_ble_eq_true rfl, Nat.le_of_ble_eq_true rfl⟩) (pcR_S (hP.sub (ws' := []) [] rfl) (hK.sub (tys' := []) [] rfl) hn) rfl rfl hl.1 rfl (lv_room (Nat.le_of_ble_eq_true rfl)) dX7_ifSeated_4 ⟨Nat.zero_le _, Nat.zero_le _⟩) (fun br4 => ?_)
  have K7 : ∀ (v7_0 : Nat), v7_0 = (if (fX7_in v 0 1) = 0 then 1 else 0) → ∀ (H : Heap) (locs : List Loc), va_P (dC, dI) vwCl (mW cI o q0 q1 f x M h) H → va_D A (mW cI o q0 q1 f x M h) → va_S A s.heap H locs → ∀ (ls : Array Slot), lv_has ls 2 [(0, .ref o), (1, .int v)] → W p l e rmX7_ifSeated s m args below meth c H locs 0 0 Q (F0 m 15 ls [.int (nI v7_0), .ref o]) := by
    intro v7_0 hz7 H locs hP hD hS ls hl
    have hz := hz7
    have bz7 : (nI v7_0 : Int32) = 0 ∨ nI v7_0 = 1 := by rw [hz]; (repeat' split); all_goals first | exact Or.inl rfl | exact Or.inr rfl
    have hF := bd_at hF hz
    refine k_muti (Wd := (fun (v9 : (Nat → Int32)) => mW cI o q0 q1 f x v9 h)) (va_runV (As := [.int (nI v7_0)]) (rest := []) ⟨hx, hb, hml, hown, hts0⟩ (mX7_holds l dC dI cI o q0 q1 f x M h (nI v7_0)) (cwV 1 hts0 (gi_V u_908 u_910 us_15 u_7 u_911) rfl rfl rfl (by decide +kernel) ⟨Nat.le_of_ble_eq_true rfl, Nat.le_of_ble_eq_true rfl⟩) (pcM_V (ci := 5) (q0 := 0) hP hK hn hD rfl rfl) rfl rfl hl.1 rfl (lv_room (Nat.le_of_ble_eq_true rfl)) dX7_ifSeated_15 ⟨Nat.zero_le _, Nat.zero_le _⟩) hP hD hS [0, 1, 2] rfl rfl (fun _ => rfl) (fun r15 U15 H locs hU15 hP hD hS => ?_)
    obtain ⟨hU15, br15⟩ := hU15
    have hP : va_P (dC, dI) vwCl (mW cI o q0 q1 f x U15 h) H := hP
    have hD : va_D A (mW cI o q0 q1 f x U15 h) := hD
    have hF := bd2_at hF hU15
    refine lv_if_eq (tgt := 29) hx hb dX7_ifSeated_18 (by decide) (fun c_18 => ?_) (fun c_18 => ?_)
    · have hF := hF.trans (if_pos c_18)
      refine lv_iconst (v := 0) hx hb dX7_ifSeated_29 (by decide) ?_
      rw [hQ]
      exact W.iret (v := 0) hx hb hr (fun t ht hW => ⟨⟨0, (f, U15), rfl, hF.symm, toH ht hP⟩, hS.F ht⟩) hS.2.2 dX7_ifSeated_30
    have hF := hF.trans (if_neg c_18)
    refine lv_aload_n hx hb dX7_ifSeated_21 rfl (lv_at hl 0 rfl) ?_
    refine lv_iload_n hx hb dX7_ifSeated_22 rfl (lv_at hl 1 rfl) ?_
    refine k_muti (Wd := (fun (v9 : (Nat → Int32)) => mW cI o q0 q1 v9 x U15 h)) (va_runV (As := [.int v]) (rest := []) ⟨hx, hb, hml, hown, hts0⟩ (mX7_seatedIf l dC dI cI o q0 q1 f x U15 h v hR G9 L9 hL) (cwV 1 hts0 (gi_V u_1176 u_1178 us_51 u_7 u_1179) rfl rfl rfl (by decide +kernel) ⟨Nat.le_of_ble_eq_true rfl, Nat.le_of_ble_eq_true rfl⟩) (pcM_V (ci := 5) (q0 := 0) hP hK hn hD rfl rfl) rfl rfl hl.1 rfl (lv_room (Nat.le_of_ble_eq_true rfl)) dX7_ifSeated_23 ⟨Nat.zero_le _, Nat.zero_le _⟩) hP hD hS [0, 1, 2] rfl rfl (fun _ => rfl) (fun r23 U23 H locs hU23 hP hD hS => ?_)
    have hP : va_P (dC, dI) vwCl (mW cI o q0 q1 U23 x U15 h) H := hP
    have hD : va_D A (mW cI o q0 q1 U23 x U15 h) := hD
    have hF := bd2_at hF hU23
    refine lv_goto (tgt := 30) hx hb dX7_ifSeated_26 (by decide) ?_
    rw [hQ]
    exact W.iret (v := r23) hx hb hr (fun t ht hW => ⟨⟨r23, (U23, U15), rfl, hF.symm, toH ht hP⟩, hS.F ht⟩) hS.2.2 dX7_ifSeated_30
  have hF : ((if (fX7_in v 0 1) = 0 then 1 else 0) : Nat) = (if (fX7_in v 0 1) = 0 then 1 else 0) := rfl
  refine lv_if_eq (tgt := 14) hx hb dX7_ifSeated_7 (by decide) (fun c_7 => ?_) (fun c_7 => ?_)
  · have hF := hF.trans (if_pos c_7)
    refine lv_iconst (v := 1) hx hb dX7_ifSeated_14 (by decide) ?_
    exact K7 _ hF.symm _ _ hP hD hS  ls (lv_sub hl [0, 1] rfl)
  have hF := hF.trans (if_neg c_7)
  refine lv_iconst (v := 0) hx hb dX7_ifSeated_10 (by decide) ?_
  refine lv_goto (tgt := 15) hx hb dX7_ifSeated_11 (by decide) ?_
  exact K7 _ hF.symm _ _ hP hD hS  ls (lv_sub hl [0, 1] rfl)
