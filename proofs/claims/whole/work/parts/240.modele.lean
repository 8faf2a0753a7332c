def fX7_seatsAll_b4 (b : Nat) (kk4 : Nat) (x4_2 : Int32) (U4_1 : Nat → Int32) (nextkk4 : Int32 → (Nat → Int32) → (Int32 × ((Nat → Int32)))) : Int32 × ((Nat → Int32)) :=
  (bd2 ((if (fX7_of U4_1 b kk4 3) = (-1) then (if (fX7_best U4_1 b kk4) = (-1) then ((x4_2 + 1), U4_1) else (bd (fX7_sitsDown U4_1 b kk4 ((fX7_best U4_1 b kk4) / 8) ((fX7_best U4_1 b kk4) - (fX7_best U4_1 b kk4) / 8 * 8)) (fun U60 => (x4_2, U60)))) else (x4_2, U4_1)) : Int32 × (Nat → Int32)) (fun v24_0 U24_1 => (nextkk4 v24_0 U24_1)))
def fX7_seatsAll_r4 (x4_2 : Int32) (U4_1 : Nat → Int32) : Int32 × ((Nat → Int32)) :=
  (x4_2, U4_1)
def fX7_seatsAll (f : Nat → Int32) (b : Nat) : Int32 × ((Nat → Int32)) :=
  (lq2 (fX7_seatsAll_b4 b) fX7_seatsAll_r4 ((f (b + 0)).toNatClampNeg) 0 0 f)
abbrev rmX7_seatsAll : Room := { frames := 6, cells := 0, slots := 0, locals := 149 }
set_option maxHeartbeats 4000000 in
set_option maxRecDepth 100000 in
theorem mX7_seatsAll (l : Launch) (dC : Nat → ClassId) (dI : Nat → Nat → Nat) (cI : ClassId) (o q0 q1 : Nat) (f x M : Nat → Int32) (h : Int64) (b : Nat) (G9 : Nat) (L9 : List Nat) (hL : RO f b G9 L9) : Met l yX7_seatsAll (ws_ yX7_seatsAll cX7_seatsAll 5 (some .int)) rmX7_seatsAll (pcM (dC, dI) [(cI, .int)] (mW cI o q0 q1 f x M h) [.ref o, .int (nI b)]) (va_Qi (fun (r9 : Int32) (u9 : (Nat → Int32)) => (r9, u9) = fX7_seatsAll f b) (fun u9 t => va_P (dC, dI) vwCl ((fun (v9 : (Nat → Int32)) => mW cI o q0 q1 v9 x M h) u9) t.heap) (adr (mW cI o q0 q1 f x M h))) 0 0 (adr (mW cI o q0 q1 f x M h)) := by
  refine Met.ofW (cc := cX7_seatsAll) (maxL := 5) (ret := (some .int)) (by decide) rfl ?_
  intro p e s m args below meth c s₁ B hml hv
  obtain ⟨ha, hP, hK, hn, hD0⟩ := hv
  have hx := B.exec
  have hb := B.bytes
  have hr := B.returns
  have hts0 := atoms_spec (ws := (ws_ yX7_seatsAll cX7_seatsAll 5 (some .int))) B.pre
  have hts : ∀ w ∈ lw_all, w.before args s = true := fun w h => hts0 w (List.mem_cons_of_mem _ h)
  have hown : s.vm.findClass RX7 = some m.cls := findClass_of_methodNamed B.named
  have hlocks := B.notSynchronized
  have htX7 : ∀ w ∈ wsX70, w.before args s = true := fun w h => hts w (wX7 w h)
  have hD := adr_self hD0
  obtain ⟨A, hA⟩ : ∃ A, A = adr (mW cI o q0 q1 f x M h) := ⟨_, rfl⟩
  rw [← hA] at hD
  have hS : va_S A s.heap s.heap [] := va_S.rf
  obtain ⟨Q, hQ⟩ : ∃ Q, Q = MQ below (va_Qi (fun (r9 : Int32) (u9 : (Nat → Int32)) => (r9, u9) = fX7_seatsAll f b) (fun u9 t => va_P (dC, dI) vwCl ((fun (v9 : (Nat → Int32)) => mW cI o q0 q1 v9 x M h) u9) t.heap) (adr (mW cI o q0 q1 f x M h))) args s 0 0 (adr (mW cI o q0 q1 f x M h)) := ⟨_, rfl⟩
  rw [← hQ]
  rw [← hA] at hQ
  have hl := lv_entry ([.ref o, .int (nI b)]) (n := 5) (Nat.le_of_ble_eq_true rfl)
  rw [ha, lg_entry_eq, ← ha]
  generalize (lg_sl ([.ref o, .int (nI b)]) ++ List.replicate (5 - (lg_sl ([.ref o, .int (nI b)])).length) Slot.unset).toArray = ls at hl ⊢
  have hl : lv_has ls 5 [(0, .ref o), (1, .int (nI b))] := hl
  show W p l e rmX7_seatsAll s m args below meth c s.heap [] 0 0 Q (F0 m 0 ls [])
  have hF : fX7_seatsAll f b = fX7_seatsAll f b := rfl
  have rB := hL.1.1
  have e0 : (f (b + 0)).toNatClampNeg = G9 := by rw [hL.2.1, nI_clamp (by have := hL.2.2.1; omega)]
  have hG9 := hL.2.2.1
  refine lv_iconst (v := 0) hx hb dX7_seatsAll_0 (by decide) ?_
  refine lv_istore_n (lv' := [(2, .int 0), (0, .ref o), (1, .int (nI b))]) hx hb dX7_seatsAll_1 rfl hl (by decide) rfl (fun ls hl => ?_)
  refine lv_iconst (v := 0) hx hb dX7_seatsAll_2 (by decide) ?_
  refine lv_istore_n (lv' := [(3, .int 0), (2, .int 0), (0, .ref o), (1, .int (nI b))]) hx hb dX7_seatsAll_3 rfl hl (by decide) rfl (fun ls hl => ?_)
  have L4 : ∀ (jj4 kk4 : Nat) (x4_2 : Int32) (U4_1 : Nat → Int32), kk4 + jj4 = ((f (b + 0)).toNatClampNeg) → fX7_seatsAll f b = lq2 (fX7_seatsAll_b4 b) fX7_seatsAll_r4 jj4 kk4 x4_2 U4_1 → (∃ L, RO U4_1 b G9 L) → ∀ (H : Heap) (locs : List Loc), va_P (dC, dI) vwCl (mW cI o q0 q1 U4_1 x M h) H → va_D A (mW cI o q0 q1 U4_1 x M h) → va_S A s.heap H locs → ∀ (ls : Array Slot), lv_has ls 5 [(3, .int (nI kk4)), (2, .int x4_2), (0, .ref o), (1, .int (nI b))] → W p l e rmX7_seatsAll s m args below meth c H locs 0 0 Q (F0 m 4 ls []) := by
    intro jj4
    induction jj4 using Nat.strongRecOn with
    | _ jj4 ihkk4 =>
      intro kk4 x4_2 U4_1 hkkk4 hF hikk4 H locs hP hD hS ls hl
      refine lv_iload_n hx hb dX7_seatsAll_4 rfl (lv_at hl 0 rfl) ?_
      refine lv_aload_n hx hb dX7_seatsAll_5 rfl (lv_at hl 2 rfl) ?_
      refine va_get (D := (dC, dI)) (ci := 5) (v := .ref q0) (C := RX7) (T := TX7) (N := 12) hx hb htX7 (fun _ h => h) hown hK hP 0 rfl rfl 1 (by decide) (hts _ u_858) (fun _ h9 => h9) rfl dX7_seatsAll_6 ?_
      refine lv_iload_n hx hb dX7_seatsAll_9 rfl (lv_at hl 3 rfl) ?_
      refine lv_iconst (v := 0) hx hb dX7_seatsAll_10 (by decide) ?_
      refine lv_iadd hx hb dX7_seatsAll_11 ?_
      refine lv_tope (y := (nI (b + 0))) (nI_add b 0) ?_
      refine va_iald hx hb hK hP 1 0 rfl rfl (vp_in_nI (n := (b + 0)) (by omega) (by decide)) dX7_seatsAll_12 ?_
      refine lv_tope (y := (U4_1 (b + 0))) (at_nI (k := (b + 0)) (by omega)) ?_
      refine lv_icmp_ge (tgt := 69) hx hb dX7_seatsAll_13 (by decide) (fun c_13 => ?_) (fun c_13 => ?_)
      · obtain rfl := cn_exit hkkk4 (by rw [hL.2.1, ← RO_g hikk4]; exact c_13)
        have hF := hF.trans (lq2_z _ _ _ _ _)
        refine lv_iload_n hx hb dX7_seatsAll_69 rfl (lv_at hl 1 rfl) ?_
        rw [hQ]
        exact W.iret (v := x4_2) hx hb hr (fun t ht hW => ⟨⟨x4_2, U4_1, rfl, hF.symm, toH ht hP⟩, hS.F ht⟩) hS.2.2 dX7_seatsAll_70
      obtain ⟨jj4, rfl⟩ := cn_go hkkk4 (by rw [hL.2.1, ← RO_g hikk4]; exact c_13)
      have hF := hF.trans (lq2_s _ _ _ _ _ _)
      obtain ⟨nextkk4, hnextkk4⟩ : ∃ y9, y9 = lq2 (fX7_seatsAll_b4 b) fX7_seatsAll_r4 jj4 (kk4 + 1) := ⟨_, rfl⟩
      rw [← hnextkk4] at hF
      obtain ⟨L8, hL8⟩ := hikk4
      have hR : RW U4_1 b := hL8.1
      have hkG : kk4 < G9 := by omega
      refine lv_aload_n hx hb dX7_seatsAll_16 rfl (lv_at hl 2 rfl) ?_
      refine lv_iload_n hx hb dX7_seatsAll_17 rfl (lv_at hl 3 rfl) ?_
      refine lv_iload_n hx hb dX7_seatsAll_18 rfl (lv_at hl 0 rfl) ?_
      refine lv_iconst (v := 3) hx hb dX7_seatsAll_19 (by decide) ?_
      refine k_calli (W.runV (As := [.int (nI b), .int (nI kk4), .int 3]) (rest := []) ⟨hx, hb, hml, hown, hts0⟩ (mX7_of l dC dI cI o q0 q1 U4_1 x M h b kk4 3 (by first | omega | assumption)) (cwV 3 hts0 (gi_V u_932 u_934 us_20 u_7 u_935) rfl rfl rfl (by decide +kernel) ⟨Nat.le_of_ble_eq_true rfl, Nat.le_of_ble_eq_true rfl⟩) (pcR_V (ci := 5) (q0 := 0) hP hK hn rfl rfl) rfl rfl hl.1 rfl (lv_room (Nat.le_of_ble_eq_true rfl)) dX7_seatsAll_20 ⟨Nat.zero_le _, Nat.zero_le _⟩) ?_
      refine lv_iconst (v := (-1)) hx hb dX7_seatsAll_23 (by decide) ?_
      have K24 : ∀ (v24_0 : Int32) (U24_1 : Nat → Int32), (v24_0, U24_1) = (if (fX7_of U4_1 b kk4 3) = (-1) then (if (fX7_best U4_1 b kk4) = (-1) then ((x4_2 + 1), U4_1) else (bd (fX7_sitsDown U4_1 b kk4 ((fX7_best U4_1 b kk4) / 8) ((fX7_best U4_1 b kk4) - (fX7_best U4_1 b kk4) / 8 * 8)) (fun U60 => (x4_2, U60)))) else (x4_2, U4_1)) → ∀ (H : Heap) (locs : List Loc), va_P (dC, dI) vwCl (mW cI o q0 q1 U24_1 x M h) H → va_D A (mW cI o q0 q1 U24_1 x M h) → va_S A s.heap H locs → ∀ (ls : Array Slot), lv_has ls 5 [(3, .int (nI kk4)), (2, .int v24_0), (0, .ref o), (1, .int (nI b))] → W p l e rmX7_seatsAll s m args below meth c H locs 0 0 Q (F0 m 63 ls []) := by
        intro v24_0 U24_1 hz24 H locs hP hD hS ls hl
        have hz := hz24
        have hF := bd2_at hF hz
        refine lv_iinc (v := (nI (kk4 + 1))) (lv' := [(3, .int (nI (kk4 + 1))), (2, .int v24_0), (0, .ref o), (1, .int (nI b))]) hx hb dX7_seatsAll_63 hl (k := 0) rfl (nI_1 _) (by decide) rfl (fun ls hl => ?_)
        refine lv_goto (tgt := 4) hx hb dX7_seatsAll_66 (by decide) ?_
        have hF : fX7_seatsAll f b = nextkk4 v24_0 U24_1 := hF
        rw [hnextkk4] at hF
        exact ihkk4 jj4 (Nat.lt_succ_self _) (kk4 + 1) v24_0 U24_1 (cn_next hkkk4) hF (seatsAll_step hL8 hkG hz) _ _ hP hD hS ls (lv_sub hl [0, 1, 2, 3] rfl)
      have hF : ((if (fX7_of U4_1 b kk4 3) = (-1) then (if (fX7_best U4_1 b kk4) = (-1) then ((x4_2 + 1), U4_1) else (bd (fX7_sitsDown U4_1 b kk4 ((fX7_best U4_1 b kk4) / 8) ((fX7_best U4_1 b kk4) - (fX7_best U4_1 b kk4) / 8 * 8)) (fun U60 => (x4_2, U60)))) else (x4_2, U4_1)) : Int32 × (Nat → Int32)) = (if (fX7_of U4_1 b kk4 3) = (-1) then (if (fX7_best U4_1 b kk4) = (-1) then ((x4_2 + 1), U4_1) else (bd (fX7_sitsDown U4_1 b kk4 ((fX7_best U4_1 b kk4) / 8) ((fX7_best U4_1 b kk4) - (fX7_best U4_1 b kk4) / 8 * 8)) (fun U60 => (x4_2, U60)))) else (x4_2, U4_1)) := rfl
      refine lv_icmp_ne (tgt := 63) hx hb dX7_seatsAll_24 (by decide) (fun c_24 => ?_) (fun c_24 => ?_)
      · have hF := hF.trans (if_neg c_24)
        exact K24 _ _ hF.symm _ _ hP hD hS  ls (lv_sub hl [0, 1, 2, 3] rfl)
      have hF := hF.trans (if_pos c_24)
      refine lv_aload_n hx hb dX7_seatsAll_27 rfl (lv_at hl 2 rfl) ?_
      refine lv_iload_n hx hb dX7_seatsAll_28 rfl (lv_at hl 3 rfl) ?_
      refine lv_iload_n hx hb dX7_seatsAll_29 rfl (lv_at hl 0 rfl) ?_
      refine k_same (Wd := (fun (v9 : (Nat → Int32)) => mW cI o q0 q1 v9 x M h)) (va_runV (As := [.int (nI b), .int (nI kk4)]) (rest := []) ⟨hx, hb, hml, hown, hts0⟩ (mX7_best l dC dI cI o q0 q1 U4_1 x M h b kk4 (by first | omega | assumption) (by first | omega | assumption)) (cwV 2 hts0 (gi_V u_1036 u_1038 us_35 u_7 u_1039) rfl rfl rfl (by decide +kernel) ⟨Nat.le_of_ble_eq_true rfl, Nat.le_of_ble_eq_true rfl⟩) (pcM_V (ci := 5) (q0 := 0) hP hK hn hD rfl rfl) rfl rfl hl.1 rfl (lv_room (Nat.le_of_ble_eq_true rfl)) dX7_seatsAll_30 ⟨Nat.zero_le _, Nat.zero_le _⟩) hP hD hS [0, 1, 2] rfl rfl (fun _ => rfl) (fun H locs hP hD hS => ?_)
      have hP : va_P (dC, dI) vwCl (mW cI o q0 q1 U4_1 x M h) H := hP
      have hD : va_D A (mW cI o q0 q1 U4_1 x M h) := hD
      refine lv_istore (lv' := [(4, .int (fX7_best U4_1 b kk4)), (3, .int (nI kk4)), (2, .int x4_2), (0, .ref o), (1, .int (nI b))]) hx hb dX7_seatsAll_33 hl (by decide) rfl (fun ls hl => ?_)
      refine lv_iload hx hb dX7_seatsAll_35 (lv_at hl 0 rfl) ?_
      refine lv_iconst (v := (-1)) hx hb dX7_seatsAll_37 (by decide) ?_
      refine lv_icmp_ne (tgt := 47) hx hb dX7_seatsAll_38 (by decide) (fun c_38 => ?_) (fun c_38 => ?_)
      · have hF := hF.trans (if_neg c_38)
        obtain ⟨S0, hS0, hSe⟩ := RO_midS hL8 hkG
        refine lv_aload_n hx hb dX7_seatsAll_47 rfl (lv_at hl 3 rfl) ?_
        refine lv_iload_n hx hb dX7_seatsAll_48 rfl (lv_at hl 4 rfl) ?_
        refine lv_iload_n hx hb dX7_seatsAll_49 rfl (lv_at hl 1 rfl) ?_
        refine lv_iload hx hb dX7_seatsAll_50 (lv_at hl 0 rfl) ?_
        refine lv_bipush (v := 8) hx hb dX7_seatsAll_52 (by decide) ?_
        refine lv_idiv hx hb dX7_seatsAll_54 (by decide) ?_
        refine lv_iload hx hb dX7_seatsAll_55 (lv_at hl 0 rfl) ?_
        refine lv_bipush (v := 8) hx hb dX7_seatsAll_57 (by decide) ?_
        refine lv_irem hx hb dX7_seatsAll_59 (by decide) ?_
        refine k_mutv (Wd := (fun (v9 : (Nat → Int32)) => mW cI o q0 q1 v9 x M h)) (va_runV (As := [.int (nI b), .int (nI kk4), .int ((fX7_best U4_1 b kk4) / 8), .int ((fX7_best U4_1 b kk4) - (fX7_best U4_1 b kk4) / 8 * 8)]) (rest := []) ⟨hx, hb, hml, hown, hts0⟩ (mX7_sitsDown l dC dI cI o q0 q1 U4_1 x M h b kk4 ((fX7_best U4_1 b kk4) / 8) ((fX7_best U4_1 b kk4) - (fX7_best U4_1 b kk4) / 8 * 8) hR (by omega) S0 hS0 hSe) (cwV 4 hts0 (gi_V u_1000 u_1002 us_29 u_7 u_1003) rfl rfl rfl (by decide +kernel) ⟨Nat.le_of_ble_eq_true rfl, Nat.le_of_ble_eq_true rfl⟩) (pcM_V (ci := 5) (q0 := 0) hP hK hn hD rfl rfl) rfl rfl hl.1 rfl (lv_room (Nat.le_of_ble_eq_true rfl)) dX7_seatsAll_60 ⟨Nat.zero_le _, Nat.zero_le _⟩) hP hD hS [0, 1, 2] rfl rfl (fun _ => rfl) (fun U60 H locs hU60 hP hD hS => ?_)
        have hP : va_P (dC, dI) vwCl (mW cI o q0 q1 U60 x M h) H := hP
        have hD : va_D A (mW cI o q0 q1 U60 x M h) := hD
        have hF := bd_at hF hU60
        exact K24 _ _ hF.symm _ _ hP hD hS  ls (lv_sub hl [1, 2, 3, 4] rfl)
      have hF := hF.trans (if_pos c_38)
      refine lv_iinc (v := (x4_2 + 1)) (lv' := [(2, .int (x4_2 + 1)), (4, .int (fX7_best U4_1 b kk4)), (3, .int (nI kk4)), (0, .ref o), (1, .int (nI b))]) hx hb dX7_seatsAll_41 hl (k := 2) rfl rfl (by decide) rfl (fun ls hl => ?_)
      refine lv_goto (tgt := 63) hx hb dX7_seatsAll_44 (by decide) ?_
      exact K24 _ _ hF.symm _ _ hP hD hS  ls (lv_sub hl [2, 0, 3, 4] rfl)
  exact L4 ((f (b + 0)).toNatClampNeg) 0 0 f (Nat.zero_add _) hF ⟨L9, hL⟩ _ _ hP hD hS ls (lv_sub hl [0, 1, 2, 3] rfl)

def fX7_save_b2 (M : Nat → Int32) (kk2 : Nat) (U2_0 : Nat → Int32) (nextkk2 : (Nat → Int32) → ((Nat → Int32) × (Nat → Int32))) : (Nat → Int32) × (Nat → Int32) :=
  (if (M 1) = 6 then (bd (fX7_copies U2_0 (kk2 + 1) kk2) (fun U22 => (nextkk2 U22))) else (bd ((if 6 ≤ (M 1) then 0 else 1) : Nat) (fun v42_0 => (bd (fX7_copies U2_0 0 (((M 1) + (nI v42_0)).toNatClampNeg)) (fun U60 => (U60, (upd M 1 ((M 1) + (nI v42_0)))))))))
def fX7_save_r2 (M : Nat → Int32) (U2_0 : Nat → Int32) : (Nat → Int32) × (Nat → Int32) :=
  (bd ((if 6 ≤ (M 1) then 0 else 1) : Nat) (fun v42_0 => (bd (fX7_copies U2_0 0 (((M 1) + (nI v42_0)).toNatClampNeg)) (fun U60 => (U60, (upd M 1 ((M 1) + (nI v42_0))))))))
def fX7_save (f : Nat → Int32) (M : Nat → Int32) : (Nat → Int32) × (Nat → Int32) :=
  (lq1 (fX7_save_b2 M) (fX7_save_r2 M) (((6 : Int32).toNatClampNeg) - 1) 1 f)
abbrev rmX7_save : Room := { frames := 1, cells := 0, slots := 0, locals := 23 }
set_option maxHeartbeats 4000000 in
set_option maxRecDepth 100000 in
theorem mX7_save (l : Launch) (dC : Nat → ClassId) (dI : Nat → Nat → Nat) (cI : ClassId) (o q0 q1 : Nat) (f x M : Nat → Int32) (h : Int64) (m1 : Nat) (hm1 : m1 ≤ 6) (em1 : M 1 = nI m1) : Met l yX7_save (ws_ yX7_save cX7_save 2 none) rmX7_save (pcM (dC, dI) [(cI, .int)] (mW cI o q0 q1 f x M h) [.ref o]) (va_Qv (fun (u9 : (Nat → Int32) × (Nat → Int32)) => u9 = fX7_save f M) (fun u9 t => va_P (dC, dI) vwCl ((fun (v9 : (Nat → Int32) × (Nat → Int32)) => mW cI o q0 q1 v9.1 x v9.2 h) u9) t.heap) (adr (mW cI o q0 q1 f x M h))) 0 0 (adr (mW cI o q0 q1 f x M h)) := by
  refine Met.ofW (cc := cX7_save) (maxL := 2) (ret := none) (by decide) rfl ?_
  intro p e s m args below meth c s₁ B hml hv
  obtain ⟨ha, hP, hK, hn, hD0⟩ := hv
  have hx := B.exec
  have hb := B.bytes
  have hr := B.returns
  have hts0 := atoms_spec (ws := (ws_ yX7_save cX7_save 2 none)) B.pre
  have hts : ∀ w ∈ lw_all, w.before args s = true := fun w h => hts0 w (List.mem_cons_of_mem _ h)
  have hown : s.vm.findClass RX7 = some m.cls := findClass_of_methodNamed B.named
  have hlocks := B.notSynchronized
  have htX7 : ∀ w ∈ wsX70, w.before args s = true := fun w h => hts w (wX7 w h)
  have hD := adr_self hD0
  obtain ⟨A, hA⟩ : ∃ A, A = adr (mW cI o q0 q1 f x M h) := ⟨_, rfl⟩
  rw [← hA] at hD
  have hS : va_S A s.heap s.heap [] := va_S.rf
  obtain ⟨Q, hQ⟩ : ∃ Q, Q = MQ below (va_Qv (fun (u9 : (Nat → Int32) × (Nat → Int32)) => u9 = fX7_save f M) (fun u9 t => va_P (dC, dI) vwCl ((fun (v9 : (Nat → Int32) × (Nat → Int32)) => mW cI o q0 q1 v9.1 x v9.2 h) u9) t.heap) (adr (mW cI o q0 q1 f x M h))) args s 0 0 (adr (mW cI o q0 q1 f x M h)) := ⟨_, rfl⟩
  rw [← hQ]
  rw [← hA] at hQ
  have hl := lv_entry ([.ref o]) (n := 2) (Nat.le_of_ble_eq_true rfl)
  rw [ha, lg_entry_eq, ← ha]
  generalize (lg_sl ([.ref o]) ++ List.replicate (2 - (lg_sl ([.ref o])).length) Slot.unset).toArray = ls at hl ⊢
  have hl : lv_has ls 2 [(0, .ref o)] := hl
  show W p l e rmX7_save s m args below meth c s.heap [] 0 0 Q (F0 m 0 ls [])
  have hF : fX7_save f M = fX7_save f M := rfl
  refine lv_iconst (v := 1) hx hb dX7_save_0 (by decide) ?_
  refine lv_istore_n (lv' := [(1, .int 1), (0, .ref o)]) hx hb dX7_save_1 rfl hl (by decide) rfl (fun ls hl => ?_)
  have L2 : ∀ (jj2 kk2 : Nat) (U2_0 : Nat → Int32), kk2 < 2 ^ 31 ∧ jj2 = ((6 : Int32).toNatClampNeg) - kk2 → fX7_save f M = lq1 (fX7_save_b2 M) (fX7_save_r2 M) jj2 kk2 U2_0 → ∀ (H : Heap) (locs : List Loc), va_P (dC, dI) vwCl (mW cI o q0 q1 U2_0 x M h) H → va_D A (mW cI o q0 q1 U2_0 x M h) → va_S A s.heap H locs → ∀ (ls : Array Slot), lv_has ls 2 [(1, .int (nI kk2)), (0, .ref o)] → W p l e rmX7_save s m args below meth c H locs 0 0 Q (F0 m 2 ls []) := by
    intro jj2
    induction jj2 using Nat.strongRecOn with
    | _ jj2 ihkk2 =>
      intro kk2 U2_0 hkkk2 hF H locs hP hD hS ls hl
      refine lv_iload_n hx hb dX7_save_2 rfl (lv_at hl 0 rfl) ?_
      refine lv_bipush (v := 6) hx hb dX7_save_3 (by decide) ?_
      refine lv_icmp_ge (tgt := 31) hx hb dX7_save_5 (by decide) (fun c_5 => ?_) (fun c_5 => ?_)
      · obtain rfl := cn_exit' hkkk2 c_5
        have hF := hF.trans (lq1_z _ _ _ _)
        refine lv_aload_n hx hb dX7_save_31 rfl (lv_at hl 1 rfl) ?_
        refine lv_dup hx hb dX7_save_32 rfl ?_
        refine va_get (D := (dC, dI)) (ci := 5) (v := .int (M 1)) (C := RX7) (T := TX7) (N := 12) hx hb htX7 (fun _ h => h) hown hK hP 0 rfl rfl 2 (by decide) (hts _ u_859) (fun _ h9 => h9) rfl dX7_save_33 ?_
        refine lv_aload_n hx hb dX7_save_36 rfl (lv_at hl 1 rfl) ?_
        refine va_get (D := (dC, dI)) (ci := 5) (v := .int (M 1)) (C := RX7) (T := TX7) (N := 12) hx hb htX7 (fun _ h => h) hown hK hP 0 rfl rfl 2 (by decide) (hts _ u_859) (fun _ h9 => h9) rfl dX7_save_37 ?_
        refine lv_bipush (v := 6) hx hb dX7_save_40 (by decide) ?_
        have K42 : ∀ (v42_0 : Nat), v42_0 = (if 6 ≤ (M 1) then 0 else 1) → ∀ (H : Heap) (locs : List Loc), va_P (dC, dI) vwCl (mW cI o q0 q1 U2_0 x M h) H → va_D A (mW cI o q0 q1 U2_0 x M h) → va_S A s.heap H locs → ∀ (ls : Array Slot), lv_has ls 2 [(1, .int (nI kk2)), (0, .ref o)] → W p l e rmX7_save s m args below meth c H locs 0 0 Q (F0 m 50 ls [.int (nI v42_0), .int (M 1), .ref o]) := by
          intro v42_0 hz42 H locs hP hD hS ls hl
          have hz := hz42
          have hF := bd_at hF hz
          refine lv_iadd hx hb dX7_save_50 ?_
          refine va_put (D := (dC, dI)) (ci := 5) (v := .int ((M 1) + (nI v42_0))) (ty := .int) (C := RX7) (T := TX7) (N := 12) hx hb htX7 (fun _ h => h) tyX7 tyX7_ok nmX7 hown hK hP hD hS 0 rfl rfl 2 (by decide) (hts _ u_859) (fun _ h9 => h9) rfl (by decide +kernel) rfl rfl (Nat.le_of_ble_eq_true rfl) dX7_save_51 (fun H locs hP hD hS => ?_)
          have hP : va_P (dC, dI) vwCl (mW cI o q0 q1 U2_0 x (upd M 1 ((M 1) + (nI v42_0))) h) H := hP
          have hD : va_D A (mW cI o q0 q1 U2_0 x (upd M 1 ((M 1) + (nI v42_0))) h) := hD
          have hs9 : (M 1) + (nI v42_0) = nI (m1 + v42_0) := by rw [em1, nI_add]
          have hv9 : m1 + v42_0 ≤ 6 := sav_le hm1 (by rw [← em1]; exact hz42)
          have hc57 := IN.e ⟨m1 + v42_0, hv9, hs9⟩ (by decide)
          have hb57 := IN.c ⟨m1 + v42_0, hv9, hs9⟩ (by decide)
          refine lv_aload_n hx hb dX7_save_54 rfl (lv_at hl 1 rfl) ?_
          refine lv_iconst (v := 0) hx hb dX7_save_55 (by decide) ?_
          refine lv_aload_n hx hb dX7_save_56 rfl (lv_at hl 1 rfl) ?_
          refine va_get (D := (dC, dI)) (ci := 5) (v := .int ((M 1) + (nI v42_0))) (C := RX7) (T := TX7) (N := 12) hx hb htX7 (fun _ h => h) hown hK hP 0 rfl rfl 2 (by decide) (hts _ u_859) (fun _ h9 => h9) rfl dX7_save_57 ?_
          refine lv_tope (y := (nI ((M 1) + (nI v42_0)).toNatClampNeg)) hc57 ?_
          refine k_mutv (Wd := (fun (v9 : (Nat → Int32)) => mW cI o q0 q1 v9 x (upd M 1 ((M 1) + (nI v42_0))) h)) (va_runV (As := [.int 0, .int (nI ((M 1) + (nI v42_0)).toNatClampNeg)]) (rest := []) ⟨hx, hb, hml, hown, hts0⟩ (mX7_copies l dC dI cI o q0 q1 U2_0 x (upd M 1 ((M 1) + (nI v42_0))) h 0 (((M 1) + (nI v42_0)).toNatClampNeg) (by first | omega | assumption) (by first | omega | assumption)) (cwV 2 hts0 (gi_V u_916 u_918 us_17 u_7 u_919) rfl rfl rfl (by decide +kernel) ⟨Nat.le_of_ble_eq_true rfl, Nat.le_of_ble_eq_true rfl⟩) (pcM_V (ci := 5) (q0 := 0) hP hK hn hD rfl rfl) rfl rfl hl.1 rfl (lv_room (Nat.le_of_ble_eq_true rfl)) dX7_save_60 ⟨Nat.zero_le _, Nat.zero_le _⟩) hP hD hS [0, 1, 2] rfl rfl (fun _ => rfl) (fun U60 H locs hU60 hP hD hS => ?_)
          have hP : va_P (dC, dI) vwCl (mW cI o q0 q1 U60 x (upd M 1 ((M 1) + (nI v42_0))) h) H := hP
          have hD : va_D A (mW cI o q0 q1 U60 x (upd M 1 ((M 1) + (nI v42_0))) h) := hD
          have hF := bd_at hF hU60
          rw [hQ]
          exact W.vret hx hb hr (fun t ht hW => ⟨⟨(U60, (upd M 1 ((M 1) + (nI v42_0)))), rfl, hF.symm, toH ht hP⟩, hS.F ht⟩) hS.2.2 dX7_save_63
        have hF : ((if 6 ≤ (M 1) then 0 else 1) : Nat) = (if 6 ≤ (M 1) then 0 else 1) := rfl
        refine lv_icmp_ge (tgt := 49) hx hb dX7_save_42 (by decide) (fun c_42 => ?_) (fun c_42 => ?_)
        · have hF := hF.trans (if_pos c_42)
          refine lv_iconst (v := 0) hx hb dX7_save_49 (by decide) ?_
          exact K42 _ hF.symm _ _ hP hD hS  ls (lv_sub hl [0, 1] rfl)
        have hF := hF.trans (if_neg c_42)
        refine lv_iconst (v := 1) hx hb dX7_save_45 (by decide) ?_
        refine lv_goto (tgt := 50) hx hb dX7_save_46 (by decide) ?_
        exact K42 _ hF.symm _ _ hP hD hS  ls (lv_sub hl [0, 1] rfl)
      obtain ⟨jj2, rfl⟩ := cn_go' hkkk2 c_5
      have hF := hF.trans (lq1_s _ _ _ _ _)
      obtain ⟨nextkk2, hnextkk2⟩ : ∃ y9, y9 = lq1 (fX7_save_b2 M) (fX7_save_r2 M) jj2 (kk2 + 1) := ⟨_, rfl⟩
      rw [← hnextkk2] at hF
      have h6 : (6 : Int32).toNatClampNeg = 6 := by decide
      refine lv_aload_n hx hb dX7_save_8 rfl (lv_at hl 1 rfl) ?_
      refine va_get (D := (dC, dI)) (ci := 5) (v := .int (M 1)) (C := RX7) (T := TX7) (N := 12) hx hb htX7 (fun _ h => h) hown hK hP 0 rfl rfl 2 (by decide) (hts _ u_859) (fun _ h9 => h9) rfl dX7_save_9 ?_
      refine lv_bipush (v := 6) hx hb dX7_save_12 (by decide) ?_
      refine lv_icmp_ne (tgt := 31) hx hb dX7_save_14 (by decide) (fun c_14 => ?_) (fun c_14 => ?_)
      · have hF := hF.trans (if_neg c_14)
        refine lv_aload_n hx hb dX7_save_31 rfl (lv_at hl 1 rfl) ?_
        refine lv_dup hx hb dX7_save_32 rfl ?_
        refine va_get (D := (dC, dI)) (ci := 5) (v := .int (M 1)) (C := RX7) (T := TX7) (N := 12) hx hb htX7 (fun _ h => h) hown hK hP 0 rfl rfl 2 (by decide) (hts _ u_859) (fun _ h9 => h9) rfl dX7_save_33 ?_
        refine lv_aload_n hx hb dX7_save_36 rfl (lv_at hl 1 rfl) ?_
        refine va_get (D := (dC, dI)) (ci := 5) (v := .int (M 1)) (C := RX7) (T := TX7) (N := 12) hx hb htX7 (fun _ h => h) hown hK hP 0 rfl rfl 2 (by decide) (hts _ u_859) (fun _ h9 => h9) rfl dX7_save_37 ?_
        refine lv_bipush (v := 6) hx hb dX7_save_40 (by decide) ?_
        have K42 : ∀ (v42_0 : Nat), v42_0 = (if 6 ≤ (M 1) then 0 else 1) → ∀ (H : Heap) (locs : List Loc), va_P (dC, dI) vwCl (mW cI o q0 q1 U2_0 x M h) H → va_D A (mW cI o q0 q1 U2_0 x M h) → va_S A s.heap H locs → ∀ (ls : Array Slot), lv_has ls 2 [(1, .int (nI kk2)), (0, .ref o)] → W p l e rmX7_save s m args below meth c H locs 0 0 Q (F0 m 50 ls [.int (nI v42_0), .int (M 1), .ref o]) := by
          intro v42_0 hz42 H locs hP hD hS ls hl
          have hz := hz42
          have hF := bd_at hF hz
          refine lv_iadd hx hb dX7_save_50 ?_
          refine va_put (D := (dC, dI)) (ci := 5) (v := .int ((M 1) + (nI v42_0))) (ty := .int) (C := RX7) (T := TX7) (N := 12) hx hb htX7 (fun _ h => h) tyX7 tyX7_ok nmX7 hown hK hP hD hS 0 rfl rfl 2 (by decide) (hts _ u_859) (fun _ h9 => h9) rfl (by decide +kernel) rfl rfl (Nat.le_of_ble_eq_true rfl) dX7_save_51 (fun H locs hP hD hS => ?_)
          have hP : va_P (dC, dI) vwCl (mW cI o q0 q1 U2_0 x (upd M 1 ((M 1) + (nI v42_0))) h) H := hP
          have hD : va_D A (mW cI o q0 q1 U2_0 x (upd M 1 ((M 1) + (nI v42_0))) h) := hD
          have hs9 : (M 1) + (nI v42_0) = nI (m1 + v42_0) := by rw [em1, nI_add]
          have hv9 : m1 + v42_0 ≤ 6 := sav_le hm1 (by rw [← em1]; exact hz42)
          have hc57 := IN.e ⟨m1 + v42_0, hv9, hs9⟩ (by decide)
          have hb57 := IN.c ⟨m1 + v42_0, hv9, hs9⟩ (by decide)
          refine lv_aload_n hx hb dX7_save_54 rfl (lv_at hl 1 rfl) ?_
          refine lv_iconst (v := 0) hx hb dX7_save_55 (by decide) ?_
          refine lv_aload_n hx hb dX7_save_56 rfl (lv_at hl 1 rfl) ?_
          refine va_get (D := (dC, dI)) (ci := 5) (v := .int ((M 1) + (nI v42_0))) (C := RX7) (T := TX7) (N := 12) hx hb htX7 (fun _ h => h) hown hK hP 0 rfl rfl 2 (by decide) (hts _ u_859) (fun _ h9 => h9) rfl dX7_save_57 ?_
          refine lv_tope (y := (nI ((M 1) + (nI v42_0)).toNatClampNeg)) hc57 ?_
          refine k_mutv (Wd := (fun (v9 : (Nat → Int32)) => mW cI o q0 q1 v9 x (upd M 1 ((M 1) + (nI v42_0))) h)) (va_runV (As := [.int 0, .int (nI ((M 1) + (nI v42_0)).toNatClampNeg)]) (rest := []) ⟨hx, hb, hml, hown, hts0⟩ (mX7_copies l dC dI cI o q0 q1 U2_0 x (upd M 1 ((M 1) + (nI v42_0))) h 0 (((M 1) + (nI v42_0)).toNatClampNeg) (by first | omega | assumption) (by first | omega | assumption)) (cwV 2 hts0 (gi_V u_916 u_918 us_17 u_7 u_919) rfl rfl rfl (by decide +kernel) ⟨Nat.le_of_ble_eq_true rfl, Nat.le_of_ble_eq_true rfl⟩) (pcM_V (ci := 5) (q0 := 0) hP hK hn hD rfl rfl) rfl rfl hl.1 rfl (lv_room (Nat.le_of_ble_eq_true rfl)) dX7_save_60 ⟨Nat.zero_le _, Nat.zero_le _⟩) hP hD hS [0, 1, 2] rfl rfl (fun _ => rfl) (fun U60 H locs hU60 hP hD hS => ?_)
          have hP : va_P (dC, dI) vwCl (mW cI o q0 q1 U60 x (upd M 1 ((M 1) + (nI v42_0))) h) H := hP
          have hD : va_D A (mW cI o q0 q1 U60 x (upd M 1 ((M 1) + (nI v42_0))) h) := hD
          have hF := bd_at hF hU60
          rw [hQ]
          exact W.vret hx hb hr (fun t ht hW => ⟨⟨(U60, (upd M 1 ((M 1) + (nI v42_0)))), rfl, hF.symm, toH ht hP⟩, hS.F ht⟩) hS.2.2 dX7_save_63
        have hF : ((if 6 ≤ (M 1) then 0 else 1) : Nat) = (if 6 ≤ (M 1) then 0 else 1) := rfl
        refine lv_icmp_ge (tgt := 49) hx hb dX7_save_42 (by decide) (fun c_42 => ?_) (fun c_42 => ?_)
        · have hF := hF.trans (if_pos c_42)
          refine lv_iconst (v := 0) hx hb dX7_save_49 (by decide) ?_
          exact K42 _ hF.symm _ _ hP hD hS  ls (lv_sub hl [0, 1] rfl)
        have hF := hF.trans (if_neg c_42)
        refine lv_iconst (v := 1) hx hb dX7_save_45 (by decide) ?_
        refine lv_goto (tgt := 50) hx hb dX7_save_46 (by decide) ?_
        exact K42 _ hF.symm _ _ hP hD hS  ls (lv_sub hl [0, 1] rfl)
      have hF := hF.trans (if_pos c_14)
      refine lv_aload_n hx hb dX7_save_17 rfl (lv_at hl 1 rfl) ?_
      refine lv_iload_n hx hb dX7_save_18 rfl (lv_at hl 0 rfl) ?_
      refine lv_iconst (v := 1) hx hb dX7_save_19 (by decide) ?_
      refine lv_iadd hx hb dX7_save_20 ?_
      refine lv_tope (y := (nI (kk2 + 1))) (nI_add kk2 1) ?_
      refine lv_iload_n hx hb dX7_save_21 rfl (lv_at hl 0 rfl) ?_
      refine k_mutv (Wd := (fun (v9 : (Nat → Int32)) => mW cI o q0 q1 v9 x M h)) (va_runV (As := [.int (nI (kk2 + 1)), .int (nI kk2)]) (rest := []) ⟨hx, hb, hml, hown, hts0⟩ (mX7_copies l dC dI cI o q0 q1 U2_0 x M h (kk2 + 1) kk2 (by first | omega | assumption) (by first | omega | assumption)) (cwV 2 hts0 (gi_V u_916 u_918 us_17 u_7 u_919) rfl rfl rfl (by decide +kernel) ⟨Nat.le_of_ble_eq_true rfl, Nat.le_of_ble_eq_true rfl⟩) (pcM_V (ci := 5) (q0 := 0) hP hK hn hD rfl rfl) rfl rfl hl.1 rfl (lv_room (Nat.le_of_ble_eq_true rfl)) dX7_save_22 ⟨Nat.zero_le _, Nat.zero_le _⟩) hP hD hS [0, 1, 2] rfl rfl (fun _ => rfl) (fun U22 H locs hU22 hP hD hS => ?_)
      have hP : va_P (dC, dI) vwCl (mW cI o q0 q1 U22 x M h) H := hP
      have hD : va_D A (mW cI o q0 q1 U22 x M h) := hD
      have hF := bd_at hF hU22
      refine lv_iinc (v := (nI (kk2 + 1))) (lv' := [(1, .int (nI (kk2 + 1))), (0, .ref o)]) hx hb dX7_save_25 hl (k := 0) rfl (nI_1 _) (by decide) rfl (fun ls hl => ?_)
      refine lv_goto (tgt := 2) hx hb dX7_save_28 (by decide) ?_
      have hF : fX7_save f M = nextkk2 U22 := hF
      rw [hnextkk2] at hF
      exact ihkk2 jj2 (Nat.lt_succ_self _) (kk2 + 1) U22 (cn_next' hkkk2) hF _ _ hP hD hS ls (lv_sub hl [0, 1] rfl)
  exact L2 _ 1 f ⟨by decide, rfl⟩ hF _ _ hP hD hS ls (lv_sub hl [0, 1] rfl)
