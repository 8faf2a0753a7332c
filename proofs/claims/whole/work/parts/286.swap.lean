def fX7_swap (f : Nat → Int32) (M : Nat → Int32) (v : Int32) (a : Int32) : Int32 × ((Nat → Int32) × (Nat → Int32)) :=
  (bd ((if (fX7_isGuest f v) = 0 then 0 else (if (fX7_isGuest f a) = 0 then 0 else 1)) : Nat) (fun v5_0 => (bd2 ((if (nI v5_0) = 0 then (0, f) else (if v = a then (0, f) else (if (fX7_of f 0 v.toNatClampNeg 3) = (-1) then (0, f) else (if (fX7_of f 0 a.toNatClampNeg 3) = (-1) then (0, f) else (bd2 (fX7_canSwap f v.toNatClampNeg a.toNatClampNeg) (fun r56 U56 => (if r56 = 0 then (0, U56) else (1, U56)))))))) : Nat × (Nat → Int32)) (fun v23_0 U23_1 => (bd ((if (nI v5_0) = 0 then 1 else (if v = a then 2 else (if (nI v23_0) = 0 then 3 else 0))) : Nat) (fun v71_0 => (bd2 (fX7_holds M (nI v71_0)) (fun r97 U97 => (if r97 = 0 then (0, (U23_1, U97)) else (bd (fX7_save U23_1 U97) (fun U106 => (bd (fX7_copies U106.1 8 0) (fun U113 => ((fX7_points U113 0 (-1)), (U113, U106.2)))))))))))))))
abbrev rmX7_swap : Room := { frames := 4, cells := 0, slots := 0, locals := 102 }
set_option maxHeartbeats 4000000 in
set_option maxRecDepth 100000 in
theorem mX7_swap (l : Launch) (dC : Nat → ClassId) (dI : Nat → Nat → Nat) (cI : ClassId) (o q0 q1 : Nat) (f x M : Nat → Int32) (h : Int64) (v : Int32) (a : Int32) (hR : RW f 0) (G9 : Nat) (L9 : List Nat) (hL : RO f 0 G9 L9) (m1 : Nat) (hm1 : m1 ≤ 6) (em1 : M 1 = nI m1) : Met l yX7_swap (ws_ yX7_swap cX7_swap 5 (some .int)) rmX7_swap (pcM (dC, dI) [(cI, .int)] (mW cI o q0 q1 f x M h) [.ref o, .int v, .int a]) (va_Qi (fun (r9 : Int32) (u9 : (Nat → Int32) × (Nat → Int32)) => (r9, u9) = fX7_swap f M v a) (fun u9 t => va_P (dC, dI) vwCl ((fun (v9 : (Nat → Int32) × (Nat → Int32)) => mW cI o q0 q1 v9.1 x v9.2 h) u9) t.heap) (adr (mW cI o q0 q1 f x M h))) 0 0 (adr (mW cI o q0 q1 f x M h)) := by
  refine Met.ofW (cc := cX7_swap) (maxL := 5) (ret := (some .int)) (by decide) rfl ?_
  intro p e s m args below meth c s₁ B hml hv
  obtain ⟨ha, hP, hK, hn, hD0⟩ := hv
  have hx := B.exec
  have hb := B.bytes
  have hr := B.returns
  have hts0 := atoms_spec (ws := (ws_ yX7_swap cX7_swap 5 (some .int))) B.pre
  have hts : ∀ w ∈ lw_all, w.before args s = true := fun w h => hts0 w (List.mem_cons_of_mem _ h)
  have hown : s.vm.findClass RX7 = some m.cls := findClass_of_methodNamed B.named
  have hlocks := B.notSynchronized
  have hD := adr_self hD0
  obtain ⟨A, hA⟩ : ∃ A, A = adr (mW cI o q0 q1 f x M h) := ⟨_, rfl⟩
  rw [← hA] at hD
  have hS : va_S A s.heap s.heap [] := va_S.rf
  obtain ⟨Q, hQ⟩ : ∃ Q, Q = MQ below (va_Qi (fun (r9 : Int32) (u9 : (Nat → Int32) × (Nat → Int32)) => (r9, u9) = fX7_swap f M v a) (fun u9 t => va_P (dC, dI) vwCl ((fun (v9 : (Nat → Int32) × (Nat → Int32)) => mW cI o q0 q1 v9.1 x v9.2 h) u9) t.heap) (adr (mW cI o q0 q1 f x M h))) args s 0 0 (adr (mW cI o q0 q1 f x M h)) := ⟨_, rfl⟩
  rw [← hQ]
  rw [← hA] at hQ
  have hl := lv_entry ([.ref o, .int v, .int a]) (n := 5) (Nat.le_of_ble_eq_true rfl)
  rw [ha, lg_entry_eq, ← ha]
  generalize (lg_sl ([.ref o, .int v, .int a]) ++ List.replicate (5 - (lg_sl ([.ref o, .int v, .int a])).length) Slot.unset).toArray = ls at hl ⊢
  have hl : lv_has ls 5 [(0, .ref o), (1, .int v), (2, .int a)] := hl
  show W p l e rmX7_swap s m args below meth c s.heap [] 0 0 Q (F0 m 0 ls [])
  have hF : fX7_swap f M v a = fX7_swap f M v a := rfl
  refine lv_aload_n hx hb dX7_swap_0 rfl (lv_at hl 0 rfl) ?_
  refine lv_iload_n hx hb dX7_swap_1 rfl (lv_at hl 1 rfl) ?_
  refine k_callb (W.runV (As := [.int v]) (rest := []) ⟨hx, hb, hml, hown, hts0⟩ (mX7_isGuest l dC dI cI o q0 q1 f x M h v) (cwV 1 hts0 (gi_V u_928 u_930 us_19 u_7 u_931) rfl rfl rfl (by decide +kernel) ⟨Nat.le_of_ble_eq_true rfl, Nat.le_of_ble_eq_true rfl⟩) (pcR_V (ci := 5) (q0 := 0) hP hK hn rfl rfl) rfl rfl hl.1 rfl (lv_room (Nat.le_of_ble_eq_true rfl)) dX7_swap_2 ⟨Nat.zero_le _, Nat.zero_le _⟩) (fun br2 => ?_)
  have K5 : ∀ (v5_0 : Nat), v5_0 = (if (fX7_isGuest f v) = 0 then 0 else (if (fX7_isGuest f a) = 0 then 0 else 1)) → ∀ (H : Heap) (locs : List Loc), va_P (dC, dI) vwCl (mW cI o q0 q1 f x M h) H → va_D A (mW cI o q0 q1 f x M h) → va_S A s.heap H locs → ∀ (ls : Array Slot), lv_has ls 5 [(0, .ref o), (1, .int v), (2, .int a)] → W p l e rmX7_swap s m args below meth c H locs 0 0 Q (F0 m 21 ls [.int (nI v5_0)]) := by
    intro v5_0 hz5 H locs hP hD hS ls hl
    have hz := hz5
    have bz5 : (nI v5_0 : Int32) = 0 ∨ nI v5_0 = 1 := by rw [hz]; (repeat' split); all_goals first | exact Or.inl rfl | exact Or.inr rfl
    have hF := bd_at hF hz
    refine lv_istore_n (lv' := [(3, .int (nI v5_0)), (0, .ref o), (1, .int v), (2, .int a)]) hx hb dX7_swap_21 rfl hl (by decide) rfl (fun ls hl => ?_)
    refine lv_iload_n hx hb dX7_swap_22 rfl (lv_at hl 0 rfl) ?_
    have K23 : ∀ (v23_0 : Nat) (U23_1 : Nat → Int32), (v23_0, U23_1) = (if (nI v5_0) = 0 then (0, f) else (if v = a then (0, f) else (if (fX7_of f 0 v.toNatClampNeg 3) = (-1) then (0, f) else (if (fX7_of f 0 a.toNatClampNeg 3) = (-1) then (0, f) else (bd2 (fX7_canSwap f v.toNatClampNeg a.toNatClampNeg) (fun r56 U56 => (if r56 = 0 then (0, U56) else (1, U56)))))))) → ∀ (H : Heap) (locs : List Loc), va_P (dC, dI) vwCl (mW cI o q0 q1 U23_1 x M h) H → va_D A (mW cI o q0 q1 U23_1 x M h) → va_S A s.heap H locs → ∀ (ls : Array Slot), lv_has ls 5 [(3, .int (nI v5_0)), (0, .ref o), (1, .int v), (2, .int a)] → W p l e rmX7_swap s m args below meth c H locs 0 0 Q (F0 m 67 ls [.int (nI v23_0)]) := by
      intro v23_0 U23_1 hz23 H locs hP hD hS ls hl
      have hz := hz23
      have hF := bd2_at hF hz
      refine lv_istore (lv' := [(4, .int (nI v23_0)), (3, .int (nI v5_0)), (0, .ref o), (1, .int v), (2, .int a)]) hx hb dX7_swap_67 hl (by decide) rfl (fun ls hl => ?_)
      obtain ⟨hlow, hcop⟩ := swap_join hL hz5 hz23
      have hL : RO U23_1 0 G9 L9 := RO_low hlow hL
      have hR : RW U23_1 0 := hL.1
      refine lv_aload_n hx hb dX7_swap_69 rfl (lv_at hl 2 rfl) ?_
      refine lv_iload_n hx hb dX7_swap_70 rfl (lv_at hl 1 rfl) ?_
      have K71 : ∀ (v71_0 : Nat), v71_0 = (if (nI v5_0) = 0 then 1 else (if v = a then 2 else (if (nI v23_0) = 0 then 3 else 0))) → ∀ (H : Heap) (locs : List Loc), va_P (dC, dI) vwCl (mW cI o q0 q1 U23_1 x M h) H → va_D A (mW cI o q0 q1 U23_1 x M h) → va_S A s.heap H locs → ∀ (ls : Array Slot), lv_has ls 5 [(4, .int (nI v23_0)), (3, .int (nI v5_0)), (0, .ref o), (1, .int v), (2, .int a)] → W p l e rmX7_swap s m args below meth c H locs 0 0 Q (F0 m 97 ls [.int (nI v71_0), .ref o]) := by
        intro v71_0 hz71 H locs hP hD hS ls hl
        have hz := hz71
        have hF := bd_at hF hz
        refine k_muti (Wd := (fun (v9 : (Nat → Int32)) => mW cI o q0 q1 U23_1 x v9 h)) (va_runV (As := [.int (nI v71_0)]) (rest := []) ⟨hx, hb, hml, hown, hts0⟩ (mX7_holds l dC dI cI o q0 q1 U23_1 x M h (nI v71_0)) (cwV 1 hts0 (gi_V u_908 u_910 us_15 u_7 u_911) rfl rfl rfl (by decide +kernel) ⟨Nat.le_of_ble_eq_true rfl, Nat.le_of_ble_eq_true rfl⟩) (pcM_V (ci := 5) (q0 := 0) hP hK hn hD rfl rfl) rfl rfl hl.1 rfl (lv_room (Nat.le_of_ble_eq_true rfl)) dX7_swap_97 ⟨Nat.zero_le _, Nat.zero_le _⟩) hP hD hS [0, 1, 2] rfl rfl (fun _ => rfl) (fun r97 U97 H locs hU97 hP hD hS => ?_)
        obtain ⟨hU97, br97⟩ := hU97
        have hP : va_P (dC, dI) vwCl (mW cI o q0 q1 U23_1 x U97 h) H := hP
        have hD : va_D A (mW cI o q0 q1 U23_1 x U97 h) := hD
        have hF := bd2_at hF hU97
        refine lv_if_ne (tgt := 105) hx hb dX7_swap_100 (by decide) (fun c_100 => ?_) (fun c_100 => ?_)
        · have hF := hF.trans (if_neg c_100)
          have hv0 := holds_ok hU97 c_100
          rw [hz71] at hv0
          have k1 : ¬ (nI v5_0) = 0 := fun z => by rw [if_pos z] at hv0; exact absurd hv0 (by decide)
          have k2 : ¬ v = a := fun z => by rw [if_neg k1, if_pos z] at hv0; exact absurd hv0 (by decide)
          have k3 : v23_0 ≠ 0 := fun z => by rw [if_neg k1, if_neg k2, if_pos (by rw [z]; rfl)] at hv0; exact absurd hv0 (by decide)
          obtain ⟨L8, hL8⟩ := hcop k3
          have em2 : U97 1 = nI m1 := (holds_M hU97 (by decide)).trans em1
          refine lv_aload_n hx hb dX7_swap_105 rfl (lv_at hl 2 rfl) ?_
          refine k_mutv (Wd := (fun (v9 : (Nat → Int32) × (Nat → Int32)) => mW cI o q0 q1 v9.1 x v9.2 h)) (va_runV (As := []) (rest := []) ⟨hx, hb, hml, hown, hts0⟩ (mX7_save l dC dI cI o q0 q1 U23_1 x U97 h  m1 hm1 em2) (cwV 0 hts0 (gi_V u_912 u_914 us_16 u_7 u_915) rfl rfl rfl (by decide +kernel) ⟨Nat.le_of_ble_eq_true rfl, Nat.le_of_ble_eq_true rfl⟩) (pcM_V (ci := 5) (q0 := 0) hP hK hn hD rfl rfl) rfl rfl hl.1 rfl (lv_room (Nat.le_of_ble_eq_true rfl)) dX7_swap_106 ⟨Nat.zero_le _, Nat.zero_le _⟩) hP hD hS [0, 1, 2] rfl rfl (fun _ => rfl) (fun U106 H locs hU106 hP hD hS => ?_)
          have hP : va_P (dC, dI) vwCl (mW cI o q0 q1 U106.1 x U106.2 h) H := hP
          have hD : va_D A (mW cI o q0 q1 U106.1 x U106.2 h) := hD
          have hF := bd_at hF hU106
          have hR2 : RW U106.1 0 := by rw [hU106]; exact RW_save hm1 em2 hR
          obtain ⟨-, rG20, rT20, rF20, rS20, -, -⟩ := id hR2
          have hg2 : U106.1 0 = nI (U106.1 0).toNatClampNeg := rG20.e (by decide)
          have rg2 : (U106.1 0).toNatClampNeg ≤ 16 := rG20.c (by decide)
          have ht2 : U106.1 1 = nI (U106.1 1).toNatClampNeg := rT20.e (by decide)
          have rt2 : (U106.1 1).toNatClampNeg ≤ 4 := rT20.c (by decide)
          have hL2 : RO U106.1 0 G9 L9 := by rw [hU106]; exact RO_save hm1 em2 hL
          have hL8 : RO U106.1 944 G9 L8 := by rw [hU106]; exact RO_row (b := 944) (b' := 944) (fun k hk => save_row8 hm1 em2 hk) (by decide) hL8
          refine lv_aload_n hx hb dX7_swap_109 rfl (lv_at hl 2 rfl) ?_
          refine lv_bipush (v := 8) hx hb dX7_swap_110 (by decide) ?_
          refine lv_iconst (v := 0) hx hb dX7_swap_112 (by decide) ?_
          refine k_mutv (Wd := (fun (v9 : (Nat → Int32)) => mW cI o q0 q1 v9 x U106.2 h)) (va_runV (As := [.int 8, .int 0]) (rest := []) ⟨hx, hb, hml, hown, hts0⟩ (mX7_copies l dC dI cI o q0 q1 U106.1 x U106.2 h 8 0 (by first | omega | assumption) (by first | omega | assumption)) (cwV 2 hts0 (gi_V u_916 u_918 us_17 u_7 u_919) rfl rfl rfl (by decide +kernel) ⟨Nat.le_of_ble_eq_true rfl, Nat.le_of_ble_eq_true rfl⟩) (pcM_V (ci := 5) (q0 := 0) hP hK hn hD rfl rfl) rfl rfl hl.1 rfl (lv_room (Nat.le_of_ble_eq_true rfl)) dX7_swap_113 ⟨Nat.zero_le _, Nat.zero_le _⟩) hP hD hS [0, 1, 2] rfl rfl (fun _ => rfl) (fun U113 H locs hU113 hP hD hS => ?_)
          have hP : va_P (dC, dI) vwCl (mW cI o q0 q1 U113 x U106.2 h) H := hP
          have hD : va_D A (mW cI o q0 q1 U113 x U106.2 h) := hD
          have hF := bd_at hF hU113
          have hL0 : RO U113 0 G9 L8 := by rw [hU113]; exact RO_row (b := 944) (b' := 0) (copies_back _) (by decide) hL8
          refine lv_aload_n hx hb dX7_swap_116 rfl (lv_at hl 2 rfl) ?_
          refine lv_iconst (v := 0) hx hb dX7_swap_117 (by decide) ?_
          refine lv_iconst (v := (-1)) hx hb dX7_swap_118 (by decide) ?_
          refine k_calli (W.runV (As := [.int 0, .int (-1)]) (rest := []) ⟨hx, hb, hml, hown, hts0⟩ (mX7_points l dC dI cI o q0 q1 U113 x U106.2 h 0 (-1) hL0.1) (cwV 2 hts0 (gi_V u_1004 u_1006 us_30 u_7 u_1007) rfl rfl rfl (by decide +kernel) ⟨Nat.le_of_ble_eq_true rfl, Nat.le_of_ble_eq_true rfl⟩) (pcR_V (ci := 5) (q0 := 0) hP hK hn rfl rfl) rfl rfl hl.1 rfl (lv_room (Nat.le_of_ble_eq_true rfl)) dX7_swap_119 ⟨Nat.zero_le _, Nat.zero_le _⟩) ?_
          rw [hQ]
          exact W.iret (v := (fX7_points U113 0 (-1))) hx hb hr (fun t ht hW => ⟨⟨(fX7_points U113 0 (-1)), (U113, U106.2), rfl, hF.symm, toH ht hP⟩, hS.F ht⟩) hS.2.2 dX7_swap_122
        have hF := hF.trans (if_pos c_100)
        refine lv_iconst (v := 0) hx hb dX7_swap_103 (by decide) ?_
        rw [hQ]
        exact W.iret (v := 0) hx hb hr (fun t ht hW => ⟨⟨0, (U23_1, U97), rfl, hF.symm, toH ht hP⟩, hS.F ht⟩) hS.2.2 dX7_swap_104
      have hF : ((if (nI v5_0) = 0 then 1 else (if v = a then 2 else (if (nI v23_0) = 0 then 3 else 0))) : Nat) = (if (nI v5_0) = 0 then 1 else (if v = a then 2 else (if (nI v23_0) = 0 then 3 else 0))) := rfl
      refine lv_if_ne (tgt := 78) hx hb dX7_swap_71 (by decide) (fun c_71 => ?_) (fun c_71 => ?_)
      · have hF := hF.trans (if_neg c_71)
        refine lv_iload_n hx hb dX7_swap_78 rfl (lv_at hl 3 rfl) ?_
        refine lv_iload_n hx hb dX7_swap_79 rfl (lv_at hl 4 rfl) ?_
        refine lv_icmp_ne (tgt := 87) hx hb dX7_swap_80 (by decide) (fun c_80 => ?_) (fun c_80 => ?_)
        · have hF := hF.trans (if_neg c_80)
          refine lv_iload hx hb dX7_swap_87 (lv_at hl 0 rfl) ?_
          refine lv_if_ne (tgt := 96) hx hb dX7_swap_89 (by decide) (fun c_89 => ?_) (fun c_89 => ?_)
          · have hF := hF.trans (if_neg c_89)
            refine lv_iconst (v := 0) hx hb dX7_swap_96 (by decide) ?_
            exact K71 _ hF.symm _ _ hP hD hS  ls (lv_sub hl [0, 1, 2, 3, 4] rfl)
          have hF := hF.trans (if_pos c_89)
          refine lv_iconst (v := 3) hx hb dX7_swap_92 (by decide) ?_
          refine lv_goto (tgt := 97) hx hb dX7_swap_93 (by decide) ?_
          exact K71 _ hF.symm _ _ hP hD hS  ls (lv_sub hl [0, 1, 2, 3, 4] rfl)
        have hF := hF.trans (if_pos c_80)
        refine lv_iconst (v := 2) hx hb dX7_swap_83 (by decide) ?_
        refine lv_goto (tgt := 97) hx hb dX7_swap_84 (by decide) ?_
        exact K71 _ hF.symm _ _ hP hD hS  ls (lv_sub hl [0, 1, 2, 3, 4] rfl)
      have hF := hF.trans (if_pos c_71)
      refine lv_iconst (v := 1) hx hb dX7_swap_74 (by decide) ?_
      refine lv_goto (tgt := 97) hx hb dX7_swap_75 (by decide) ?_
      exact K71 _ hF.symm _ _ hP hD hS  ls (lv_sub hl [0, 1, 2, 3, 4] rfl)
    have hF : ((if (nI v5_0) = 0 then (0, f) else (if v = a then (0, f) else (if (fX7_of f 0 v.toNatClampNeg 3) = (-1) then (0, f) else (if (fX7_of f 0 a.toNatClampNeg 3) = (-1) then (0, f) else (bd2 (fX7_canSwap f v.toNatClampNeg a.toNatClampNeg) (fun r56 U56 => (if r56 = 0 then (0, U56) else (1, U56)))))))) : Nat × (Nat → Int32)) = (if (nI v5_0) = 0 then (0, f) else (if v = a then (0, f) else (if (fX7_of f 0 v.toNatClampNeg 3) = (-1) then (0, f) else (if (fX7_of f 0 a.toNatClampNeg 3) = (-1) then (0, f) else (bd2 (fX7_canSwap f v.toNatClampNeg a.toNatClampNeg) (fun r56 U56 => (if r56 = 0 then (0, U56) else (1, U56)))))))) := rfl
    refine lv_if_eq (tgt := 66) hx hb dX7_swap_23 (by decide) (fun c_23 => ?_) (fun c_23 => ?_)
    · have hF := hF.trans (if_pos c_23)
      refine lv_iconst (v := 0) hx hb dX7_swap_66 (by decide) ?_
      exact K23 _ _ hF.symm _ _ hP hD hS  ls (lv_sub hl [0, 1, 2, 3] rfl)
    have hF := hF.trans (if_neg c_23)
    refine lv_iload_n hx hb dX7_swap_26 rfl (lv_at hl 2 rfl) ?_
    refine lv_iload_n hx hb dX7_swap_27 rfl (lv_at hl 3 rfl) ?_
    refine lv_icmp_eq (tgt := 66) hx hb dX7_swap_28 (by decide) (fun c_28 => ?_) (fun c_28 => ?_)
    · have hF := hF.trans (if_pos c_28)
      refine lv_iconst (v := 0) hx hb dX7_swap_66 (by decide) ?_
      exact K23 _ _ hF.symm _ _ hP hD hS  ls (lv_sub hl [0, 1, 2, 3] rfl)
    have hF := hF.trans (if_neg c_28)
    have k1 := c_23
    rw [hz5] at k1
    have k2 : ¬ fX7_isGuest f v = 0 := fun z => k1 (by rw [if_pos z]; rfl)
    have k3 : ¬ fX7_isGuest f a = 0 := fun z => k1 (by rw [if_neg k2, if_pos z]; rfl)
    obtain ⟨hvn, hvl, hvb⟩ := in_nat (v := v) (x := f 0) (n := 16) hR.2.1 (by decide) k2
    obtain ⟨han, hal, hab⟩ := in_nat (v := a) (x := f 0) (n := 16) hR.2.1 (by decide) k3
    refine lv_aload_n hx hb dX7_swap_31 rfl (lv_at hl 1 rfl) ?_
    refine lv_iconst (v := 0) hx hb dX7_swap_32 (by decide) ?_
    refine lv_iload_n hx hb dX7_swap_33 rfl (lv_at hl 2 rfl) ?_
    refine lv_tope (y := (nI v.toNatClampNeg)) hvn ?_
    refine lv_iconst (v := 3) hx hb dX7_swap_34 (by decide) ?_
    refine k_calli (W.runV (As := [.int 0, .int (nI v.toNatClampNeg), .int 3]) (rest := []) ⟨hx, hb, hml, hown, hts0⟩ (mX7_of l dC dI cI o q0 q1 f x M h 0 v.toNatClampNeg 3 (by first | omega | assumption)) (cwV 3 hts0 (gi_V u_932 u_934 us_20 u_7 u_935) rfl rfl rfl (by decide +kernel) ⟨Nat.le_of_ble_eq_true rfl, Nat.le_of_ble_eq_true rfl⟩) (pcR_V (ci := 5) (q0 := 0) hP hK hn rfl rfl) rfl rfl hl.1 rfl (lv_room (Nat.le_of_ble_eq_true rfl)) dX7_swap_35 ⟨Nat.zero_le _, Nat.zero_le _⟩) ?_
    refine lv_iconst (v := (-1)) hx hb dX7_swap_38 (by decide) ?_
    refine lv_icmp_eq (tgt := 66) hx hb dX7_swap_39 (by decide) (fun c_39 => ?_) (fun c_39 => ?_)
    · have hF := hF.trans (if_pos c_39)
      refine lv_iconst (v := 0) hx hb dX7_swap_66 (by decide) ?_
      exact K23 _ _ hF.symm _ _ hP hD hS  ls (lv_sub hl [0, 1, 2, 3] rfl)
    have hF := hF.trans (if_neg c_39)
    refine lv_aload_n hx hb dX7_swap_42 rfl (lv_at hl 1 rfl) ?_
    refine lv_iconst (v := 0) hx hb dX7_swap_43 (by decide) ?_
    refine lv_iload_n hx hb dX7_swap_44 rfl (lv_at hl 3 rfl) ?_
    refine lv_tope (y := (nI a.toNatClampNeg)) han ?_
    refine lv_iconst (v := 3) hx hb dX7_swap_45 (by decide) ?_
    refine k_calli (W.runV (As := [.int 0, .int (nI a.toNatClampNeg), .int 3]) (rest := []) ⟨hx, hb, hml, hown, hts0⟩ (mX7_of l dC dI cI o q0 q1 f x M h 0 a.toNatClampNeg 3 (by first | omega | assumption)) (cwV 3 hts0 (gi_V u_932 u_934 us_20 u_7 u_935) rfl rfl rfl (by decide +kernel) ⟨Nat.le_of_ble_eq_true rfl, Nat.le_of_ble_eq_true rfl⟩) (pcR_V (ci := 5) (q0 := 0) hP hK hn rfl rfl) rfl rfl hl.1 rfl (lv_room (Nat.le_of_ble_eq_true rfl)) dX7_swap_46 ⟨Nat.zero_le _, Nat.zero_le _⟩) ?_
    refine lv_iconst (v := (-1)) hx hb dX7_swap_49 (by decide) ?_
    refine lv_icmp_eq (tgt := 66) hx hb dX7_swap_50 (by decide) (fun c_50 => ?_) (fun c_50 => ?_)
    · have hF := hF.trans (if_pos c_50)
      refine lv_iconst (v := 0) hx hb dX7_swap_66 (by decide) ?_
      exact K23 _ _ hF.symm _ _ hP hD hS  ls (lv_sub hl [0, 1, 2, 3] rfl)
    have hF := hF.trans (if_neg c_50)
    refine lv_aload_n hx hb dX7_swap_53 rfl (lv_at hl 1 rfl) ?_
    refine lv_iload_n hx hb dX7_swap_54 rfl (lv_at hl 2 rfl) ?_
    refine lv_tope (y := (nI v.toNatClampNeg)) hvn ?_
    refine lv_iload_n hx hb dX7_swap_55 rfl (lv_at hl 3 rfl) ?_
    refine lv_tope (y := (nI a.toNatClampNeg)) han ?_
    refine k_muti (Wd := (fun (v9 : (Nat → Int32)) => mW cI o q0 q1 v9 x M h)) (va_runV (As := [.int (nI v.toNatClampNeg), .int (nI a.toNatClampNeg)]) (rest := []) ⟨hx, hb, hml, hown, hts0⟩ (mX7_canSwap l dC dI cI o q0 q1 f x M h v.toNatClampNeg a.toNatClampNeg hR G9 L9 hL (RO_lt hL hvl) (RO_lt hL hal) (fun z => c_28 (by rw [hvn, han, z])) c_39 c_50) (cwV 2 hts0 (gi_V u_1024 u_1026 us_33 u_7 u_1027) rfl rfl rfl (by decide +kernel) ⟨Nat.le_of_ble_eq_true rfl, Nat.le_of_ble_eq_true rfl⟩) (pcM_V (ci := 5) (q0 := 0) hP hK hn hD rfl rfl) rfl rfl hl.1 rfl (lv_room (Nat.le_of_ble_eq_true rfl)) dX7_swap_56 ⟨Nat.zero_le _, Nat.zero_le _⟩) hP hD hS [0, 1, 2] rfl rfl (fun _ => rfl) (fun r56 U56 H locs hU56 hP hD hS => ?_)
    obtain ⟨hU56, br56⟩ := hU56
    have hP : va_P (dC, dI) vwCl (mW cI o q0 q1 U56 x M h) H := hP
    have hD : va_D A (mW cI o q0 q1 U56 x M h) := hD
    have hF := bd2_at hF hU56
    refine lv_if_eq (tgt := 66) hx hb dX7_swap_59 (by decide) (fun c_59 => ?_) (fun c_59 => ?_)
    · have hF := hF.trans (if_pos c_59)
      refine lv_iconst (v := 0) hx hb dX7_swap_66 (by decide) ?_
      exact K23 _ _ hF.symm _ _ hP hD hS  ls (lv_sub hl [0, 1, 2, 3] rfl)
    have hF := hF.trans (if_neg c_59)
    refine lv_iconst (v := 1) hx hb dX7_swap_62 (by decide) ?_
    refine lv_goto (tgt := 67) hx hb dX7_swap_63 (by decide) ?_
    exact K23 _ _ hF.symm _ _ hP hD hS  ls (lv_sub hl [0, 1, 2, 3] rfl)
  have hF : ((if (fX7_isGuest f v) = 0 then 0 else (if (fX7_isGuest f a) = 0 then 0 else 1)) : Nat) = (if (fX7_isGuest f v) = 0 then 0 else (if (fX7_isGuest f a) = 0 then 0 else 1)) := rfl
  refine lv_if_eq (tgt := 20) hx hb dX7_swap_5 (by decide) (fun c_5 => ?_) (fun c_5 => ?_)
  · have hF := hF.trans (if_pos c_5)
    refine lv_iconst (v := 0) hx hb dX7_swap_20 (by decide) ?_
    exact K5 _ hF.symm _ _ hP hD hS  ls (lv_sub hl [0, 1, 2] rfl)
  have hF := hF.trans (if_neg c_5)
  refine lv_aload_n hx hb dX7_swap_8 rfl (lv_at hl 0 rfl) ?_
  refine lv_iload_n hx hb dX7_swap_9 rfl (lv_at hl 2 rfl) ?_
  refine k_callb (W.runV (As := [.int a]) (rest := []) ⟨hx, hb, hml, hown, hts0⟩ (mX7_isGuest l dC dI cI o q0 q1 f x M h a) (cwV 1 hts0 (gi_V u_928 u_930 us_19 u_7 u_931) rfl rfl rfl (by decide +kernel) ⟨Nat.le_of_ble_eq_true rfl, Nat.le_of_ble_eq_true rfl⟩) (pcR_V (ci := 5) (q0 := 0) hP hK hn rfl rfl) rfl rfl hl.1 rfl (lv_room (Nat.le_of_ble_eq_true rfl)) dX7_swap_10 ⟨Nat.zero_le _, Nat.zero_le _⟩) (fun br10 => ?_)
  refine lv_if_eq (tgt := 20) hx hb dX7_swap_13 (by decide) (fun c_13 => ?_) (fun c_13 => ?_)
  · have hF := hF.trans (if_pos c_13)
    refine lv_iconst (v := 0) hx hb dX7_swap_20 (by decide) ?_
    exact K5 _ hF.symm _ _ hP hD hS  ls (lv_sub hl [0, 1, 2] rfl)
  have hF := hF.trans (if_neg c_13)
  refine lv_iconst (v := 1) hx hb dX7_swap_16 (by decide) ?_
  refine lv_goto (tgt := 21) hx hb dX7_swap_17 (by decide) ?_
  exact K5 _ hF.symm _ _ hP hD hS  ls (lv_sub hl [0, 1, 2] rfl)
