def fX7_seats_b32 (x : Nat → Int32) (kk32 : Nat) (x32_1 : Int32) (U32_1 : Nat → Int32) (U32_2 : Nat → Int32) (nextkk32 : Int32 → (Nat → Int32) → (Nat → Int32) → (Int32 × ((Nat → Int32) × (Nat → Int32)))) : Int32 × ((Nat → Int32) × (Nat → Int32)) :=
  (bd2 (fX7_readsPart x U32_2) (fun r33 U33 => (if r33 = 0 then (x32_1, (U32_1, (upd U33 3 0))) else (bd2 (fX7_isDone U32_1 U33) (fun r41 U41 => (bd ((if r41 = 0 then 0 else 1) : Nat) (fun v44_0 => (bd2 (fX7_takes x U33 59) (fun r57 U57 => (nextkk32 (x32_1 + (nI v44_0)) U41 U57))))))))))
def fX7_seats_r32 (x32_1 : Int32) (U32_1 : Nat → Int32) (U32_2 : Nat → Int32) : Int32 × ((Nat → Int32) × (Nat → Int32)) :=
  (x32_1, (U32_1, U32_2))
def fX7_seats (f : Nat → Int32) (x : Nat → Int32) (M : Nat → Int32) : Int32 × ((Nat → Int32) × (Nat → Int32)) :=
  (bd2 (fX7_areSeats x M) (fun r2 U2 => (bd ((if r2 = 0 then 1 else 0) : Nat) (fun v5_0 => (bd2 (fX7_holds U2 (nI v5_0)) (fun r13 U13 => (if r13 = 0 then (0, (f, U13)) else (bd (fX7_save f U13) (fun U22 => (lq3 (fX7_seats_b32 x) fX7_seats_r32 61 0 0 U22.1 (upd U22.2 4 0)))))))))))
abbrev rmX7_seats : Room := { frames := 5, cells := 0, slots := 0, locals := 105 }
set_option maxHeartbeats 4000000 in
set_option maxRecDepth 100000 in
theorem mX7_seats (l : Launch) (dC : Nat → ClassId) (dI : Nat → Nat → Nat) (cI : ClassId) (o q0 q1 : Nat) (f x M : Nat → Int32) (h : Int64) (hR : RW f 0) (G9 : Nat) (L9 : List Nat) (hL : RO f 0 G9 L9) (hM3 : IN (M 3) 60) (m1 : Nat) (hm1 : m1 ≤ 6) (em1 : M 1 = nI m1) : Met l yX7_seats (ws_ yX7_seats cX7_seats 2 (some .int)) rmX7_seats (pcM (dC, dI) [(cI, .int)] (mW cI o q0 q1 f x M h) [.ref o]) (va_Qi (fun (r9 : Int32) (u9 : (Nat → Int32) × (Nat → Int32)) => (r9, u9) = fX7_seats f x M) (fun u9 t => va_P (dC, dI) vwCl ((fun (v9 : (Nat → Int32) × (Nat → Int32)) => mW cI o q0 q1 v9.1 x v9.2 h) u9) t.heap) (adr (mW cI o q0 q1 f x M h))) 0 0 (adr (mW cI o q0 q1 f x M h)) := by
  refine Met.ofW (cc := cX7_seats) (maxL := 2) (ret := (some .int)) (by decide) rfl ?_
  intro p e s m args below meth c s₁ B hml hv
  obtain ⟨ha, hP, hK, hn, hD0⟩ := hv
  have hx := B.exec
  have hb := B.bytes
  have hr := B.returns
  have hts0 := atoms_spec (ws := (ws_ yX7_seats cX7_seats 2 (some .int))) B.pre
  have hts : ∀ w ∈ lw_all, w.before args s = true := fun w h => hts0 w (List.mem_cons_of_mem _ h)
  have hown : s.vm.findClass RX7 = some m.cls := findClass_of_methodNamed B.named
  have hlocks := B.notSynchronized
  have htX7 : ∀ w ∈ wsX70, w.before args s = true := fun w h => hts w (wX7 w h)
  have hD := adr_self hD0
  obtain ⟨A, hA⟩ : ∃ A, A = adr (mW cI o q0 q1 f x M h) := ⟨_, rfl⟩
  rw [← hA] at hD
  have hS : va_S A s.heap s.heap [] := va_S.rf
  obtain ⟨Q, hQ⟩ : ∃ Q, Q = MQ below (va_Qi (fun (r9 : Int32) (u9 : (Nat → Int32) × (Nat → Int32)) => (r9, u9) = fX7_seats f x M) (fun u9 t => va_P (dC, dI) vwCl ((fun (v9 : (Nat → Int32) × (Nat → Int32)) => mW cI o q0 q1 v9.1 x v9.2 h) u9) t.heap) (adr (mW cI o q0 q1 f x M h))) args s 0 0 (adr (mW cI o q0 q1 f x M h)) := ⟨_, rfl⟩
  rw [← hQ]
  rw [← hA] at hQ
  have hl := lv_entry ([.ref o]) (n := 2) (Nat.le_of_ble_eq_true rfl)
  rw [ha, lg_entry_eq, ← ha]
  generalize (lg_sl ([.ref o]) ++ List.replicate (2 - (lg_sl ([.ref o])).length) Slot.unset).toArray = ls at hl ⊢
  have hl : lv_has ls 2 [(0, .ref o)] := hl
  show W p l e rmX7_seats s m args below meth c s.heap [] 0 0 Q (F0 m 0 ls [])
  have hF : fX7_seats f x M = fX7_seats f x M := rfl
  refine lv_aload_n hx hb dX7_seats_0 rfl (lv_at hl 0 rfl) ?_
  refine lv_aload_n hx hb dX7_seats_1 rfl (lv_at hl 0 rfl) ?_
  refine k_muti (Wd := (fun (v9 : (Nat → Int32)) => mW cI o q0 q1 f x v9 h)) (va_runV (As := []) (rest := [.ref o]) ⟨hx, hb, hml, hown, hts0⟩ (mX7_areSeats l dC dI cI o q0 q1 f x M h  hM3) (cwV 0 hts0 (gi_V u_1056 u_1058 us_37 u_7 u_1059) rfl rfl rfl (by decide +kernel) ⟨Nat.le_of_ble_eq_true rfl, Nat.le_of_ble_eq_true rfl⟩) (pcM_V (ci := 5) (q0 := 0) hP hK hn hD rfl rfl) rfl rfl hl.1 rfl (lv_room (Nat.le_of_ble_eq_true rfl)) dX7_seats_2 ⟨Nat.zero_le _, Nat.zero_le _⟩) hP hD hS [0, 1, 2] rfl rfl (fun _ => rfl) (fun r2 U2 H locs hU2 hP hD hS => ?_)
  obtain ⟨hU2, br2⟩ := hU2
  have hP : va_P (dC, dI) vwCl (mW cI o q0 q1 f x U2 h) H := hP
  have hD : va_D A (mW cI o q0 q1 f x U2 h) := hD
  have hF := bd2_at hF hU2
  have em1 : U2 1 = nI m1 := (areSeats_keep (by decide) hU2).trans em1
  have hM3 : IN (U2 3) 60 := by rw [areSeats_keep (by decide) hU2]; exact hM3
  have K5 : ∀ (v5_0 : Nat), v5_0 = (if r2 = 0 then 1 else 0) → ∀ (H : Heap) (locs : List Loc), va_P (dC, dI) vwCl (mW cI o q0 q1 f x U2 h) H → va_D A (mW cI o q0 q1 f x U2 h) → va_S A s.heap H locs → ∀ (ls : Array Slot), lv_has ls 2 [(0, .ref o)] → W p l e rmX7_seats s m args below meth c H locs 0 0 Q (F0 m 13 ls [.int (nI v5_0), .ref o]) := by
    intro v5_0 hz5 H locs hP hD hS ls hl
    have hz := hz5
    have bz5 : (nI v5_0 : Int32) = 0 ∨ nI v5_0 = 1 := by rw [hz]; (repeat' split); all_goals first | exact Or.inl rfl | exact Or.inr rfl
    have hF := bd_at hF hz
    refine k_muti (Wd := (fun (v9 : (Nat → Int32)) => mW cI o q0 q1 f x v9 h)) (va_runV (As := [.int (nI v5_0)]) (rest := []) ⟨hx, hb, hml, hown, hts0⟩ (mX7_holds l dC dI cI o q0 q1 f x U2 h (nI v5_0)) (cwV 1 hts0 (gi_V u_908 u_910 us_15 u_7 u_911) rfl rfl rfl (by decide +kernel) ⟨Nat.le_of_ble_eq_true rfl, Nat.le_of_ble_eq_true rfl⟩) (pcM_V (ci := 5) (q0 := 0) hP hK hn hD rfl rfl) rfl rfl hl.1 rfl (lv_room (Nat.le_of_ble_eq_true rfl)) dX7_seats_13 ⟨Nat.zero_le _, Nat.zero_le _⟩) hP hD hS [0, 1, 2] rfl rfl (fun _ => rfl) (fun r13 U13 H locs hU13 hP hD hS => ?_)
    obtain ⟨hU13, br13⟩ := hU13
    have hP : va_P (dC, dI) vwCl (mW cI o q0 q1 f x U13 h) H := hP
    have hD : va_D A (mW cI o q0 q1 f x U13 h) := hD
    have hF := bd2_at hF hU13
    refine lv_if_ne (tgt := 21) hx hb dX7_seats_16 (by decide) (fun c_16 => ?_) (fun c_16 => ?_)
    · have hF := hF.trans (if_neg c_16)
      have em2 : U13 1 = nI m1 := (holds_M hU13 (by decide)).trans em1
      refine lv_aload_n hx hb dX7_seats_21 rfl (lv_at hl 0 rfl) ?_
      refine k_mutv (Wd := (fun (v9 : (Nat → Int32) × (Nat → Int32)) => mW cI o q0 q1 v9.1 x v9.2 h)) (va_runV (As := []) (rest := []) ⟨hx, hb, hml, hown, hts0⟩ (mX7_save l dC dI cI o q0 q1 f x U13 h  m1 hm1 em2) (cwV 0 hts0 (gi_V u_912 u_914 us_16 u_7 u_915) rfl rfl rfl (by decide +kernel) ⟨Nat.le_of_ble_eq_true rfl, Nat.le_of_ble_eq_true rfl⟩) (pcM_V (ci := 5) (q0 := 0) hP hK hn hD rfl rfl) rfl rfl hl.1 rfl (lv_room (Nat.le_of_ble_eq_true rfl)) dX7_seats_22 ⟨Nat.zero_le _, Nat.zero_le _⟩) hP hD hS [0, 1, 2] rfl rfl (fun _ => rfl) (fun U22 H locs hU22 hP hD hS => ?_)
      have hP : va_P (dC, dI) vwCl (mW cI o q0 q1 U22.1 x U22.2 h) H := hP
      have hD : va_D A (mW cI o q0 q1 U22.1 x U22.2 h) := hD
      have hF := bd_at hF hU22
      have hR2 : RW U22.1 0 := by rw [hU22]; exact RW_save hm1 em2 hR
      obtain ⟨-, rG20, rT20, rF20, rS20, -, -⟩ := id hR2
      have hg2 : U22.1 0 = nI (U22.1 0).toNatClampNeg := rG20.e (by decide)
      have rg2 : (U22.1 0).toNatClampNeg ≤ 16 := rG20.c (by decide)
      have ht2 : U22.1 1 = nI (U22.1 1).toNatClampNeg := rT20.e (by decide)
      have rt2 : (U22.1 1).toNatClampNeg ≤ 4 := rT20.c (by decide)
      have hL2 : RO U22.1 0 G9 L9 := by rw [hU22]; exact RO_save hm1 em2 hL
      have hM32 : IN (U22.2 3) 60 := by rw [hU22, save_M hm1 em2, upd_ne (by decide), holds_M hU13 (by decide)]; exact hM3
      refine lv_aload_n hx hb dX7_seats_25 rfl (lv_at hl 0 rfl) ?_
      refine lv_iconst (v := 0) hx hb dX7_seats_26 (by decide) ?_
      refine va_put (D := (dC, dI)) (ci := 5) (v := .int 0) (ty := .int) (C := RX7) (T := TX7) (N := 12) hx hb htX7 (fun _ h => h) tyX7 tyX7_ok nmX7 hown hK hP hD hS 0 rfl rfl 6 (by decide) (hts _ u_863) (fun _ h9 => h9) rfl (by decide +kernel) rfl rfl (Nat.le_of_ble_eq_true rfl) dX7_seats_27 (fun H locs hP hD hS => ?_)
      have hP : va_P (dC, dI) vwCl (mW cI o q0 q1 U22.1 x (upd U22.2 4 0) h) H := hP
      have hD : va_D A (mW cI o q0 q1 U22.1 x (upd U22.2 4 0) h) := hD
      refine lv_iconst (v := 0) hx hb dX7_seats_30 (by decide) ?_
      refine lv_istore_n (lv' := [(1, .int 0), (0, .ref o)]) hx hb dX7_seats_31 rfl hl (by decide) rfl (fun ls hl => ?_)
      have L32 : ∀ (jj32 kk32 : Nat) (x32_1 : Int32) (U32_1 : Nat → Int32) (U32_2 : Nat → Int32), kk32 + jj32 = 61 → fX7_seats f x M = lq3 (fX7_seats_b32 x) fX7_seats_r32 jj32 kk32 x32_1 U32_1 U32_2 → ((∃ L, RO U32_1 0 G9 L) ∧ TX U32_2 ∧ kk32 ≤ (U32_2 4).toNatClampNeg) → ∀ (H : Heap) (locs : List Loc), va_P (dC, dI) vwCl (mW cI o q0 q1 U32_1 x U32_2 h) H → va_D A (mW cI o q0 q1 U32_1 x U32_2 h) → va_S A s.heap H locs → ∀ (ls : Array Slot), lv_has ls 2 [(1, .int x32_1), (0, .ref o)] → W p l e rmX7_seats s m args below meth c H locs 0 0 Q (F0 m 32 ls []) := by
        intro jj32
        induction jj32 using Nat.strongRecOn with
        | _ jj32 ihkk32 =>
          intro kk32 x32_1 U32_1 U32_2 hkkk32 hF hikk32 H locs hP hD hS ls hl
          obtain ⟨⟨L5, hL5⟩, hT5, hk5⟩ := hikk32
          have hb5 := hT5.2.1.c (by decide)
          obtain ⟨jj32, rfl⟩ : ∃ j9, jj32 = j9 + 1 := ⟨jj32 - 1, by omega⟩
          have hF := hF.trans (lq3_s _ _ _ _ _ _ _)
          obtain ⟨nextkk32, hnextkk32⟩ : ∃ y9, y9 = lq3 (fX7_seats_b32 x) fX7_seats_r32 jj32 (kk32 + 1) := ⟨_, rfl⟩
          rw [← hnextkk32] at hF
          refine lv_aload_n hx hb dX7_seats_32 rfl (lv_at hl 1 rfl) ?_
          refine k_muti (Wd := (fun (v9 : (Nat → Int32)) => mW cI o q0 q1 U32_1 x v9 h)) (va_runV (As := []) (rest := []) ⟨hx, hb, hml, hown, hts0⟩ (mX7_readsPart l dC dI cI o q0 q1 U32_1 x U32_2 h  hT5) (cwV 0 hts0 (gi_V u_1060 u_1062 us_38 u_7 u_1063) rfl rfl rfl (by decide +kernel) ⟨Nat.le_of_ble_eq_true rfl, Nat.le_of_ble_eq_true rfl⟩) (pcM_V (ci := 5) (q0 := 0) hP hK hn hD rfl rfl) rfl rfl hl.1 rfl (lv_room (Nat.le_of_ble_eq_true rfl)) dX7_seats_33 ⟨Nat.zero_le _, Nat.zero_le _⟩) hP hD hS [0, 1, 2] rfl rfl (fun _ => rfl) (fun r33 U33 H locs hU33 hP hD hS => ?_)
          obtain ⟨hU33, br33⟩ := hU33
          have hP : va_P (dC, dI) vwCl (mW cI o q0 q1 U32_1 x U33 h) H := hP
          have hD : va_D A (mW cI o q0 q1 U32_1 x U33 h) := hD
          have hF := bd2_at hF hU33
          refine lv_if_eq (tgt := 64) hx hb dX7_seats_36 (by decide) (fun c_36 => ?_) (fun c_36 => ?_)
          · have hF := hF.trans (if_pos c_36)
            refine lv_aload_n hx hb dX7_seats_64 rfl (lv_at hl 1 rfl) ?_
            refine lv_iconst (v := 0) hx hb dX7_seats_65 (by decide) ?_
            refine va_put (D := (dC, dI)) (ci := 5) (v := .int 0) (ty := .int) (C := RX7) (T := TX7) (N := 12) hx hb htX7 (fun _ h => h) tyX7 tyX7_ok nmX7 hown hK hP hD hS 0 rfl rfl 5 (by decide) (hts _ u_862) (fun _ h9 => h9) rfl (by decide +kernel) rfl rfl (Nat.le_of_ble_eq_true rfl) dX7_seats_66 (fun H locs hP hD hS => ?_)
            have hP : va_P (dC, dI) vwCl (mW cI o q0 q1 U32_1 x (upd U33 3 0) h) H := hP
            have hD : va_D A (mW cI o q0 q1 U32_1 x (upd U33 3 0) h) := hD
            refine lv_iload_n hx hb dX7_seats_69 rfl (lv_at hl 0 rfl) ?_
            rw [hQ]
            exact W.iret (v := x32_1) hx hb hr (fun t ht hW => ⟨⟨x32_1, (U32_1, (upd U33 3 0)), rfl, hF.symm, toH ht hP⟩, hS.F ht⟩) hS.2.2 dX7_seats_70
          have hF := hF.trans (if_neg c_36)
          refine lv_iload_n hx hb dX7_seats_39 rfl (lv_at hl 0 rfl) ?_
          refine lv_aload_n hx hb dX7_seats_40 rfl (lv_at hl 1 rfl) ?_
          refine k_muti (Wd := (fun (v9 : (Nat → Int32)) => mW cI o q0 q1 v9 x U33 h)) (va_runV (As := []) (rest := [.int x32_1]) ⟨hx, hb, hml, hown, hts0⟩ (mX7_isDone l dC dI cI o q0 q1 U32_1 x U33 h  hL5.1 G9 L5 hL5) (cwV 0 hts0 (gi_V u_1084 u_1086 us_43 u_7 u_1087) rfl rfl rfl (by decide +kernel) ⟨Nat.le_of_ble_eq_true rfl, Nat.le_of_ble_eq_true rfl⟩) (pcM_V (ci := 5) (q0 := 0) hP hK hn hD rfl rfl) rfl rfl hl.1 rfl (lv_room (Nat.le_of_ble_eq_true rfl)) dX7_seats_41 ⟨Nat.zero_le _, Nat.zero_le _⟩) hP hD hS [0, 1, 2] rfl rfl (fun _ => rfl) (fun r41 U41 H locs hU41 hP hD hS => ?_)
          obtain ⟨hU41, br41⟩ := hU41
          have hP : va_P (dC, dI) vwCl (mW cI o q0 q1 U41 x U33 h) H := hP
          have hD : va_D A (mW cI o q0 q1 U41 x U33 h) := hD
          have hF := bd2_at hF hU41
          have K44 : ∀ (v44_0 : Nat), v44_0 = (if r41 = 0 then 0 else 1) → ∀ (H : Heap) (locs : List Loc), va_P (dC, dI) vwCl (mW cI o q0 q1 U41 x U33 h) H → va_D A (mW cI o q0 q1 U41 x U33 h) → va_S A s.heap H locs → ∀ (ls : Array Slot), lv_has ls 2 [(1, .int x32_1), (0, .ref o)] → W p l e rmX7_seats s m args below meth c H locs 0 0 Q (F0 m 52 ls [.int (nI v44_0), .int x32_1]) := by
            intro v44_0 hz44 H locs hP hD hS ls hl
            have hz := hz44
            have bz44 : (nI v44_0 : Int32) = 0 ∨ nI v44_0 = 1 := by rw [hz]; (repeat' split); all_goals first | exact Or.inl rfl | exact Or.inr rfl
            have hF := bd_at hF hz
            refine lv_iadd hx hb dX7_seats_52 ?_
            refine lv_istore_n (lv' := [(1, .int (x32_1 + (nI v44_0))), (0, .ref o)]) hx hb dX7_seats_53 rfl hl (by decide) rfl (fun ls hl => ?_)
            refine lv_aload_n hx hb dX7_seats_54 rfl (lv_at hl 1 rfl) ?_
            refine lv_bipush (v := 59) hx hb dX7_seats_55 (by decide) ?_
            refine k_muti (Wd := (fun (v9 : (Nat → Int32)) => mW cI o q0 q1 U41 x v9 h)) (va_runV (As := [.int 59]) (rest := []) ⟨hx, hb, hml, hown, hts0⟩ (mX7_takes l dC dI cI o q0 q1 U41 x U33 h 59 (readsPart_TX hT5 hU33)) (cwV 1 hts0 (gi_V u_1064 u_1066 us_39 u_7 u_1067) rfl rfl rfl (by decide +kernel) ⟨Nat.le_of_ble_eq_true rfl, Nat.le_of_ble_eq_true rfl⟩) (pcM_V (ci := 5) (q0 := 0) hP hK hn hD rfl rfl) rfl rfl hl.1 rfl (lv_room (Nat.le_of_ble_eq_true rfl)) dX7_seats_57 ⟨Nat.zero_le _, Nat.zero_le _⟩) hP hD hS [0, 1, 2] rfl rfl (fun _ => rfl) (fun r57 U57 H locs hU57 hP hD hS => ?_)
            obtain ⟨hU57, br57⟩ := hU57
            have hP : va_P (dC, dI) vwCl (mW cI o q0 q1 U41 x U57 h) H := hP
            have hD : va_D A (mW cI o q0 q1 U41 x U57 h) := hD
            have hF := bd2_at hF hU57
            refine lv_pop hx hb dX7_seats_60 rfl ?_
            refine lv_goto (tgt := 32) hx hb dX7_seats_61 (by decide) ?_
            have hF : fX7_seats f x M = nextkk32 (x32_1 + (nI v44_0)) U41 U57 := hF
            rw [hnextkk32] at hF
            exact ihkk32 jj32 (Nat.lt_succ_self _) (kk32 + 1) (x32_1 + (nI v44_0)) U41 U57 (cn_next hkkk32) hF (seats_step hL5 hT5 hk5 hU33 c_36 hU41 hU57) _ _ hP hD hS ls (lv_sub hl [0, 1] rfl)
          have hF : ((if r41 = 0 then 0 else 1) : Nat) = (if r41 = 0 then 0 else 1) := rfl
          refine lv_if_eq (tgt := 51) hx hb dX7_seats_44 (by decide) (fun c_44 => ?_) (fun c_44 => ?_)
          · have hF := hF.trans (if_pos c_44)
            refine lv_iconst (v := 0) hx hb dX7_seats_51 (by decide) ?_
            exact K44 _ hF.symm _ _ hP hD hS  ls (lv_sub hl [0, 1] rfl)
          have hF := hF.trans (if_neg c_44)
          refine lv_iconst (v := 1) hx hb dX7_seats_47 (by decide) ?_
          refine lv_goto (tgt := 52) hx hb dX7_seats_48 (by decide) ?_
          exact K44 _ hF.symm _ _ hP hD hS  ls (lv_sub hl [0, 1] rfl)
      exact L32 61 0 0 U22.1 (upd U22.2 4 0) (Nat.zero_add _) hF ⟨⟨L9, hL2⟩, TX_at0 hM32, Nat.zero_le _⟩ _ _ hP hD hS ls (lv_sub hl [0, 1] rfl)
    have hF := hF.trans (if_pos c_16)
    refine lv_iconst (v := 0) hx hb dX7_seats_19 (by decide) ?_
    rw [hQ]
    exact W.iret (v := 0) hx hb hr (fun t ht hW => ⟨⟨0, (f, U13), rfl, hF.symm, toH ht hP⟩, hS.F ht⟩) hS.2.2 dX7_seats_20
  have hF : ((if r2 = 0 then 1 else 0) : Nat) = (if r2 = 0 then 1 else 0) := rfl
  refine lv_if_eq (tgt := 12) hx hb dX7_seats_5 (by decide) (fun c_5 => ?_) (fun c_5 => ?_)
  · have hF := hF.trans (if_pos c_5)
    refine lv_iconst (v := 1) hx hb dX7_seats_12 (by decide) ?_
    exact K5 _ hF.symm _ _ hP hD hS  ls (lv_sub hl [0] rfl)
  have hF := hF.trans (if_neg c_5)
  refine lv_iconst (v := 0) hx hb dX7_seats_8 (by decide) ?_
  refine lv_goto (tgt := 13) hx hb dX7_seats_9 (by decide) ?_
  exact K5 _ hF.symm _ _ hP hD hS  ls (lv_sub hl [0] rfl)
