def fX7_copies_b2 (a : Nat) (c9 : Nat) (kk2 : Nat) (U2_0 : Nat → Int32) (nextkk2 : (Nat → Int32) → (Nat → Int32)) : (Nat → Int32) :=
  (nextkk2 (upd U2_0 ((118 * c9) + kk2) (U2_0 ((118 * a) + kk2))))
def fX7_copies_r2 (U2_0 : Nat → Int32) : (Nat → Int32) :=
  U2_0
def fX7_copies (f : Nat → Int32) (a : Nat) (c9 : Nat) : (Nat → Int32) :=
  (lq1 (fX7_copies_b2 a c9) fX7_copies_r2 118 0 f)
abbrev rmX7_copies : Room := { frames := 0, cells := 0, slots := 0, locals := 0 }
set_option maxHeartbeats 4000000 in
set_option maxRecDepth 100000 in
theorem mX7_copies (l : Launch) (dC : Nat → ClassId) (dI : Nat → Nat → Nat) (cI : ClassId) (o q0 q1 : Nat) (f x M : Nat → Int32) (h : Int64) (a : Nat) (c9 : Nat) (hfr : a ≤ 8) (hto : c9 ≤ 8) : Met l yX7_copies (ws_ yX7_copies cX7_copies 4 none) rmX7_copies (pcM (dC, dI) [(cI, .int)] (mW cI o q0 q1 f x M h) [.ref o, .int (nI a), .int (nI c9)]) (va_Qv (fun (u9 : (Nat → Int32)) => u9 = fX7_copies f a c9) (fun u9 t => va_P (dC, dI) vwCl ((fun (v9 : (Nat → Int32)) => mW cI o q0 q1 v9 x M h) u9) t.heap) (adr (mW cI o q0 q1 f x M h))) 0 0 (adr (mW cI o q0 q1 f x M h)) := by
  refine Met.ofW (cc := cX7_copies) (maxL := 4) (ret := none) (by decide) rfl ?_
  intro p e s m args below meth c s₁ B hml hv
  obtain ⟨ha, hP, hK, hn, hD0⟩ := hv
  have hx := B.exec
  have hb := B.bytes
  have hr := B.returns
  have hts0 := atoms_spec (ws := (ws_ yX7_copies cX7_copies 4 none)) B.pre
  have hts : ∀ w ∈ lw_all, w.before args s = true := fun w h => hts0 w (List.mem_cons_of_mem _ h)
  have hown : s.vm.findClass RX7 = some m.cls := findClass_of_methodNamed B.named
  have hlocks := B.notSynchronized
  have htX7 : ∀ w ∈ wsX70, w.before args s = true := fun w h => hts w (wX7 w h)
  have hD := adr_self hD0
  obtain ⟨A, hA⟩ : ∃ A, A = adr (mW cI o q0 q1 f x M h) := ⟨_, rfl⟩
  rw [← hA] at hD
  have hS : va_S A s.heap s.heap [] := va_S.rf
  obtain ⟨Q, hQ⟩ : ∃ Q, Q = MQ below (va_Qv (fun (u9 : (Nat → Int32)) => u9 = fX7_copies f a c9) (fun u9 t => va_P (dC, dI) vwCl ((fun (v9 : (Nat → Int32)) => mW cI o q0 q1 v9 x M h) u9) t.heap) (adr (mW cI o q0 q1 f x M h))) args s 0 0 (adr (mW cI o q0 q1 f x M h)) := ⟨_, rfl⟩
  rw [← hQ]
  rw [← hA] at hQ
  have hl := lv_entry ([.ref o, .int (nI a), .int (nI c9)]) (n := 4) (Nat.le_of_ble_eq_true rfl)
  rw [ha, lg_entry_eq, ← ha]
  generalize (lg_sl ([.ref o, .int (nI a), .int (nI c9)]) ++ List.replicate (4 - (lg_sl ([.ref o, .int (nI a), .int (nI c9)])).length) Slot.unset).toArray = ls at hl ⊢
  have hl : lv_has ls 4 [(0, .ref o), (1, .int (nI a)), (2, .int (nI c9))] := hl
  show W p l e rmX7_copies s m args below meth c s.heap [] 0 0 Q (F0 m 0 ls [])
  have hF : fX7_copies f a c9 = fX7_copies f a c9 := rfl
  refine lv_iconst (v := 0) hx hb dX7_copies_0 (by decide) ?_
  refine lv_istore_n (lv' := [(3, .int 0), (0, .ref o), (1, .int (nI a)), (2, .int (nI c9))]) hx hb dX7_copies_1 rfl hl (by decide) rfl (fun ls hl => ?_)
  have L2 : ∀ (jj2 kk2 : Nat) (U2_0 : Nat → Int32), kk2 + jj2 = 118 → fX7_copies f a c9 = lq1 (fX7_copies_b2 a c9) fX7_copies_r2 jj2 kk2 U2_0 → ∀ (H : Heap) (locs : List Loc), va_P (dC, dI) vwCl (mW cI o q0 q1 U2_0 x M h) H → va_D A (mW cI o q0 q1 U2_0 x M h) → va_S A s.heap H locs → ∀ (ls : Array Slot), lv_has ls 4 [(3, .int (nI kk2)), (0, .ref o), (1, .int (nI a)), (2, .int (nI c9))] → W p l e rmX7_copies s m args below meth c H locs 0 0 Q (F0 m 2 ls []) := by
    intro jj2
    induction jj2 using Nat.strongRecOn with
    | _ jj2 ihkk2 =>
      intro kk2 U2_0 hkkk2 hF H locs hP hD hS ls hl
      refine lv_iload_n hx hb dX7_copies_2 rfl (lv_at hl 0 rfl) ?_
      refine lv_bipush (v := 118) hx hb dX7_copies_3 (by decide) ?_
      refine lv_icmp_ge (tgt := 36) hx hb dX7_copies_5 (by decide) (fun c_5 => ?_) (fun c_5 => ?_)
      · obtain rfl := cn_exitN (N := 118) hkkk2 (by decide) c_5
        have hF := hF.trans (lq1_z _ _ _ _)
        rw [hQ]
        exact W.vret hx hb hr (fun t ht hW => ⟨⟨U2_0, rfl, hF.symm, toH ht hP⟩, hS.F ht⟩) hS.2.2 dX7_copies_36
      obtain ⟨jj2, rfl⟩ := cn_goN (N := 118) hkkk2 (by decide) c_5
      have hF := hF.trans (lq1_s _ _ _ _ _)
      obtain ⟨nextkk2, hnextkk2⟩ : ∃ y9, y9 = lq1 (fX7_copies_b2 a c9) fX7_copies_r2 jj2 (kk2 + 1) := ⟨_, rfl⟩
      rw [← hnextkk2] at hF
      refine lv_aload_n hx hb dX7_copies_8 rfl (lv_at hl 1 rfl) ?_
      refine va_get (D := (dC, dI)) (ci := 5) (v := .ref q0) (C := RX7) (T := TX7) (N := 12) hx hb htX7 (fun _ h => h) hown hK hP 0 rfl rfl 1 (by decide) (hts _ u_858) (fun _ h9 => h9) rfl dX7_copies_9 ?_
      refine lv_bipush (v := 118) hx hb dX7_copies_12 (by decide) ?_
      refine lv_iload_n hx hb dX7_copies_14 rfl (lv_at hl 3 rfl) ?_
      refine lv_imul hx hb dX7_copies_15 ?_
      refine lv_tope (y := (nI (118 * c9))) (pk_mul 118 c9) ?_
      refine lv_iload_n hx hb dX7_copies_16 rfl (lv_at hl 0 rfl) ?_
      refine lv_iadd hx hb dX7_copies_17 ?_
      refine lv_tope (y := (nI ((118 * c9) + kk2))) (nI_add (118 * c9) kk2) ?_
      refine lv_aload_n hx hb dX7_copies_18 rfl (lv_at hl 1 rfl) ?_
      refine va_get (D := (dC, dI)) (ci := 5) (v := .ref q0) (C := RX7) (T := TX7) (N := 12) hx hb htX7 (fun _ h => h) hown hK hP 0 rfl rfl 1 (by decide) (hts _ u_858) (fun _ h9 => h9) rfl dX7_copies_19 ?_
      refine lv_bipush (v := 118) hx hb dX7_copies_22 (by decide) ?_
      refine lv_iload_n hx hb dX7_copies_24 rfl (lv_at hl 2 rfl) ?_
      refine lv_imul hx hb dX7_copies_25 ?_
      refine lv_tope (y := (nI (118 * a))) (pk_mul 118 a) ?_
      refine lv_iload_n hx hb dX7_copies_26 rfl (lv_at hl 0 rfl) ?_
      refine lv_iadd hx hb dX7_copies_27 ?_
      refine lv_tope (y := (nI ((118 * a) + kk2))) (nI_add (118 * a) kk2) ?_
      refine va_iald hx hb hK hP 1 0 rfl rfl (vp_in_nI (n := ((118 * a) + kk2)) (by omega) (by decide)) dX7_copies_28 ?_
      refine lv_tope (y := (U2_0 ((118 * a) + kk2))) (at_nI (k := ((118 * a) + kk2)) (by omega)) ?_
      refine va_iast hx hb hK hP hD hS 1 0 rfl rfl (vp_in_nI (n := ((118 * c9) + kk2)) (by omega) (by decide)) dX7_copies_29 (fun H locs hP hD hS => ?_)
      rw [show ((nI ((118 * c9) + kk2)) : Int32).toNatClampNeg = ((118 * c9) + kk2) from nI_clamp (n := ((118 * c9) + kk2)) (by omega)] at hP hD
      have hP : va_P (dC, dI) vwCl (mW cI o q0 q1 (upd U2_0 ((118 * c9) + kk2) (U2_0 ((118 * a) + kk2))) x M h) H := hP
      have hD : va_D A (mW cI o q0 q1 (upd U2_0 ((118 * c9) + kk2) (U2_0 ((118 * a) + kk2))) x M h) := hD
      refine lv_iinc (v := (nI (kk2 + 1))) (lv' := [(3, .int (nI (kk2 + 1))), (0, .ref o), (1, .int (nI a)), (2, .int (nI c9))]) hx hb dX7_copies_30 hl (k := 0) rfl (nI_1 _) (by decide) rfl (fun ls hl => ?_)
      refine lv_goto (tgt := 2) hx hb dX7_copies_33 (by decide) ?_
      have hF : fX7_copies f a c9 = nextkk2 (upd U2_0 ((118 * c9) + kk2) (U2_0 ((118 * a) + kk2))) := hF
      rw [hnextkk2] at hF
      exact ihkk2 jj2 (Nat.lt_succ_self _) (kk2 + 1) (upd U2_0 ((118 * c9) + kk2) (U2_0 ((118 * a) + kk2))) (cn_next hkkk2) hF _ _ hP hD hS ls (lv_sub hl [0, 1, 2, 3] rfl)
  exact L2 118 0 f (Nat.zero_add _) hF _ _ hP hD hS ls (lv_sub hl [0, 1, 2, 3] rfl)

def fX7_sitting_b5 (f : Nat → Int32) (tb : Int32) (v : Int32) (kk5 : Nat) (x5_3 : Int32) (nextkk5 : Int32 → Int32) : Int32 :=
  (bd ((if (fX7_of f 0 kk5 3) = tb then (if (fX7_of f 0 kk5 0) = v then 1 else 0) else 0) : Nat) (fun v26_0 => (nextkk5 (x5_3 + (nI v26_0)))))
def fX7_sitting_r5 (x5_3 : Int32) : Int32 :=
  x5_3
def fX7_sitting (f : Nat → Int32) (tb : Int32) (v : Int32) : Int32 :=
  (lq1 (fX7_sitting_b5 f tb v) fX7_sitting_r5 ((f 0).toNatClampNeg) 0 0)
abbrev rmX7_sitting : Room := { frames := 1, cells := 0, slots := 0, locals := 23 }
set_option maxHeartbeats 4000000 in
set_option maxRecDepth 100000 in
theorem mX7_sitting (l : Launch) (dC : Nat → ClassId) (dI : Nat → Nat → Nat) (cI : ClassId) (o q0 q1 : Nat) (f x M : Nat → Int32) (h : Int64) (tb : Int32) (v : Int32) (hR : RW f 0) : Met l yX7_sitting (ws_ yX7_sitting cX7_sitting 5 (some .int)) rmX7_sitting (pcR (dC, dI) [(cI, .int)] (mW cI o q0 q1 f x M h) [.ref o, .int tb, .int v]) (vp_Si (fun r => r = fX7_sitting f tb v)) 0 0 (fun _ => False) := by
  refine Met.ofW (cc := cX7_sitting) (maxL := 5) (ret := (some .int)) (by decide) rfl ?_
  intro p e s m args below meth c s₁ B hml hv
  obtain ⟨ha, hP, hK, hn⟩ := hv
  have hx := B.exec
  have hb := B.bytes
  have hr := B.returns
  have hts0 := atoms_spec (ws := (ws_ yX7_sitting cX7_sitting 5 (some .int))) B.pre
  have hts : ∀ w ∈ lw_all, w.before args s = true := fun w h => hts0 w (List.mem_cons_of_mem _ h)
  have hown : s.vm.findClass RX7 = some m.cls := findClass_of_methodNamed B.named
  have hlocks := B.notSynchronized
  have htX7 : ∀ w ∈ wsX70, w.before args s = true := fun w h => hts w (wX7 w h)
  obtain ⟨Q, hQ⟩ : ∃ Q, Q = MQ below (vp_Si (fun r => r = fX7_sitting f tb v)) args s 0 0 (fun _ => False) := ⟨_, rfl⟩
  rw [← hQ]
  have hl := lv_entry ([.ref o, .int tb, .int v]) (n := 5) (Nat.le_of_ble_eq_true rfl)
  rw [ha, lg_entry_eq, ← ha]
  generalize (lg_sl ([.ref o, .int tb, .int v]) ++ List.replicate (5 - (lg_sl ([.ref o, .int tb, .int v])).length) Slot.unset).toArray = ls at hl ⊢
  have hl : lv_has ls 5 [(0, .ref o), (1, .int tb), (2, .int v)] := hl
  show W p l e rmX7_sitting s m args below meth c s.heap [] 0 0 Q (F0 m 0 ls [])
  have hF : fX7_sitting f tb v = fX7_sitting f tb v := rfl
  obtain ⟨-, rG0, -⟩ := id hR
  have rG : (f 0).toNatClampNeg ≤ 16 := rG0.c (by decide)
  refine lv_iconst (v := 0) hx hb dX7_sitting_0 (by decide) ?_
  refine lv_istore_n (lv' := [(3, .int 0), (0, .ref o), (1, .int tb), (2, .int v)]) hx hb dX7_sitting_1 rfl hl (by decide) rfl (fun ls hl => ?_)
  refine lv_iconst (v := 0) hx hb dX7_sitting_2 (by decide) ?_
  refine lv_istore (lv' := [(4, .int 0), (3, .int 0), (0, .ref o), (1, .int tb), (2, .int v)]) hx hb dX7_sitting_3 hl (by decide) rfl (fun ls hl => ?_)
  have L5 : ∀ (jj5 kk5 : Nat) (x5_3 : Int32), kk5 + jj5 = ((f 0).toNatClampNeg) → fX7_sitting f tb v = lq1 (fX7_sitting_b5 f tb v) fX7_sitting_r5 jj5 kk5 x5_3 → ∀ (ls : Array Slot), lv_has ls 5 [(4, .int (nI kk5)), (3, .int x5_3), (0, .ref o), (1, .int tb), (2, .int v)] → W p l e rmX7_sitting s m args below meth c s.heap [] 0 0 Q (F0 m 5 ls []) := by
    intro jj5
    induction jj5 using Nat.strongRecOn with
    | _ jj5 ihkk5 =>
      intro kk5 x5_3 hkkk5 hF  ls hl
      refine lv_iload hx hb dX7_sitting_5 (lv_at hl 0 rfl) ?_
      refine lv_aload_n hx hb dX7_sitting_7 rfl (lv_at hl 2 rfl) ?_
      refine va_get (D := (dC, dI)) (ci := 5) (v := .ref q0) (C := RX7) (T := TX7) (N := 12) hx hb htX7 (fun _ h => h) hown hK hP 0 rfl rfl 1 (by decide) (hts _ u_858) (fun _ h9 => h9) rfl dX7_sitting_8 ?_
      refine lv_iconst (v := 0) hx hb dX7_sitting_11 (by decide) ?_
      refine va_iald hx hb hK hP 1 0 rfl rfl (vp_in_nI (n := 0) (by omega) (by decide)) dX7_sitting_12 ?_
      refine lv_tope (y := (f 0)) (at_nI (k := 0) (by omega)) ?_
      refine lv_icmp_ge (tgt := 54) hx hb dX7_sitting_13 (by decide) (fun c_13 => ?_) (fun c_13 => ?_)
      · obtain rfl := cn_exit hkkk5 c_13
        have hF := hF.trans (lq1_z _ _ _ _)
        refine lv_iload_n hx hb dX7_sitting_54 rfl (lv_at hl 1 rfl) ?_
        rw [hQ]
        exact W.iret (v := x5_3) hx hb hr (fun t ht hW => ⟨x5_3, rfl, hF.symm, ht⟩) (fun q hq => absurd hq List.not_mem_nil) dX7_sitting_55
      obtain ⟨jj5, rfl⟩ := cn_go hkkk5 c_13
      have hF := hF.trans (lq1_s _ _ _ _ _)
      obtain ⟨nextkk5, hnextkk5⟩ : ∃ y9, y9 = lq1 (fX7_sitting_b5 f tb v) fX7_sitting_r5 jj5 (kk5 + 1) := ⟨_, rfl⟩
      rw [← hnextkk5] at hF
      refine lv_iload_n hx hb dX7_sitting_16 rfl (lv_at hl 1 rfl) ?_
      refine lv_aload_n hx hb dX7_sitting_17 rfl (lv_at hl 2 rfl) ?_
      refine lv_iconst (v := 0) hx hb dX7_sitting_18 (by decide) ?_
      refine lv_iload hx hb dX7_sitting_19 (lv_at hl 0 rfl) ?_
      refine lv_iconst (v := 3) hx hb dX7_sitting_21 (by decide) ?_
      refine k_calli (W.runV (As := [.int 0, .int (nI kk5), .int 3]) (rest := [.int x5_3]) ⟨hx, hb, hml, hown, hts0⟩ (mX7_of l dC dI cI o q0 q1 f x M h 0 kk5 3 (by first | omega | assumption)) (cwV 3 hts0 (gi_V u_932 u_934 us_20 u_7 u_935) rfl rfl rfl (by decide +kernel) ⟨Nat.le_of_ble_eq_true rfl, Nat.le_of_ble_eq_true rfl⟩) (pcR_V (ci := 5) (q0 := 0) hP hK hn rfl rfl) rfl rfl hl.1 rfl (lv_room (Nat.le_of_ble_eq_true rfl)) dX7_sitting_22 ⟨Nat.zero_le _, Nat.zero_le _⟩) ?_
      refine lv_iload_n hx hb dX7_sitting_25 rfl (lv_at hl 3 rfl) ?_
      have K26 : ∀ (v26_0 : Nat), v26_0 = (if (fX7_of f 0 kk5 3) = tb then (if (fX7_of f 0 kk5 0) = v then 1 else 0) else 0) → ∀ (ls : Array Slot), lv_has ls 5 [(4, .int (nI kk5)), (3, .int x5_3), (0, .ref o), (1, .int tb), (2, .int v)] → W p l e rmX7_sitting s m args below meth c s.heap [] 0 0 Q (F0 m 46 ls [.int (nI v26_0), .int x5_3]) := by
        intro v26_0 hz26  ls hl
        have hz := hz26
        have hF := bd_at hF hz
        refine lv_iadd hx hb dX7_sitting_46 ?_
        refine lv_istore_n (lv' := [(3, .int (x5_3 + (nI v26_0))), (4, .int (nI kk5)), (0, .ref o), (1, .int tb), (2, .int v)]) hx hb dX7_sitting_47 rfl hl (by decide) rfl (fun ls hl => ?_)
        refine lv_iinc (v := (nI (kk5 + 1))) (lv' := [(4, .int (nI (kk5 + 1))), (3, .int (x5_3 + (nI v26_0))), (0, .ref o), (1, .int tb), (2, .int v)]) hx hb dX7_sitting_48 hl (k := 1) rfl (nI_1 _) (by decide) rfl (fun ls hl => ?_)
        refine lv_goto (tgt := 5) hx hb dX7_sitting_51 (by decide) ?_
        have hF : fX7_sitting f tb v = nextkk5 (x5_3 + (nI v26_0)) := hF
        rw [hnextkk5] at hF
        exact ihkk5 jj5 (Nat.lt_succ_self _) (kk5 + 1) (x5_3 + (nI v26_0)) (cn_next hkkk5) hF ls (lv_sub hl [0, 1, 2, 3, 4] rfl)
      have hF : ((if (fX7_of f 0 kk5 3) = tb then (if (fX7_of f 0 kk5 0) = v then 1 else 0) else 0) : Nat) = (if (fX7_of f 0 kk5 3) = tb then (if (fX7_of f 0 kk5 0) = v then 1 else 0) else 0) := rfl
      refine lv_icmp_ne (tgt := 45) hx hb dX7_sitting_26 (by decide) (fun c_26 => ?_) (fun c_26 => ?_)
      · have hF := hF.trans (if_neg c_26)
        refine lv_iconst (v := 0) hx hb dX7_sitting_45 (by decide) ?_
        exact K26 _ hF.symm  ls (lv_sub hl [0, 1, 2, 3, 4] rfl)
      have hF := hF.trans (if_pos c_26)
      refine lv_aload_n hx hb dX7_sitting_29 rfl (lv_at hl 2 rfl) ?_
      refine lv_iconst (v := 0) hx hb dX7_sitting_30 (by decide) ?_
      refine lv_iload hx hb dX7_sitting_31 (lv_at hl 0 rfl) ?_
      refine lv_iconst (v := 0) hx hb dX7_sitting_33 (by decide) ?_
      refine k_calli (W.runV (As := [.int 0, .int (nI kk5), .int 0]) (rest := [.int x5_3]) ⟨hx, hb, hml, hown, hts0⟩ (mX7_of l dC dI cI o q0 q1 f x M h 0 kk5 0 (by first | omega | assumption)) (cwV 3 hts0 (gi_V u_932 u_934 us_20 u_7 u_935) rfl rfl rfl (by decide +kernel) ⟨Nat.le_of_ble_eq_true rfl, Nat.le_of_ble_eq_true rfl⟩) (pcR_V (ci := 5) (q0 := 0) hP hK hn rfl rfl) rfl rfl hl.1 rfl (lv_room (Nat.le_of_ble_eq_true rfl)) dX7_sitting_34 ⟨Nat.zero_le _, Nat.zero_le _⟩) ?_
      refine lv_iload_n hx hb dX7_sitting_37 rfl (lv_at hl 4 rfl) ?_
      refine lv_icmp_ne (tgt := 45) hx hb dX7_sitting_38 (by decide) (fun c_38 => ?_) (fun c_38 => ?_)
      · have hF := hF.trans (if_neg c_38)
        refine lv_iconst (v := 0) hx hb dX7_sitting_45 (by decide) ?_
        exact K26 _ hF.symm  ls (lv_sub hl [0, 1, 2, 3, 4] rfl)
      have hF := hF.trans (if_pos c_38)
      refine lv_iconst (v := 1) hx hb dX7_sitting_41 (by decide) ?_
      refine lv_goto (tgt := 46) hx hb dX7_sitting_42 (by decide) ?_
      exact K26 _ hF.symm  ls (lv_sub hl [0, 1, 2, 3, 4] rfl)
  exact L5 ((f 0).toNatClampNeg) 0 0 (Nat.zero_add _) hF ls (lv_sub hl [0, 1, 2, 3, 4] rfl)

def fX7_leaving (f : Nat → Int32) (tb : Int32) (v : Int32) (c9 : Int32) : Int32 :=
  (if (fX7_sitting f tb v) = 0 then (-1) else (if (fX7_sitting f tb c9) = 0 then (-1) else (bd ((if v ≤ c9 then c9 else v) : Int32) (fun v30_0 => (if (fX7_sitting f tb c9) ≤ (fX7_sitting f tb v) then (if (fX7_sitting f tb v) ≤ (fX7_sitting f tb c9) then v30_0 else c9) else v)))))
abbrev rmX7_leaving : Room := { frames := 2, cells := 0, slots := 0, locals := 47 }
set_option maxHeartbeats 4000000 in
set_option maxRecDepth 100000 in
theorem mX7_leaving (l : Launch) (dC : Nat → ClassId) (dI : Nat → Nat → Nat) (cI : ClassId) (o q0 q1 : Nat) (f x M : Nat → Int32) (h : Int64) (tb : Int32) (v : Int32) (c9 : Int32) (hR : RW f 0) : Met l yX7_leaving (ws_ yX7_leaving cX7_leaving 7 (some .int)) rmX7_leaving (pcR (dC, dI) [(cI, .int)] (mW cI o q0 q1 f x M h) [.ref o, .int tb, .int v, .int c9]) (vp_Si (fun r => r = fX7_leaving f tb v c9)) 0 0 (fun _ => False) := by
  refine Met.ofW (cc := cX7_leaving) (maxL := 7) (ret := (some .int)) (by decide) rfl ?_
  intro p e s m args below meth c s₁ B hml hv
  obtain ⟨ha, hP, hK, hn⟩ := hv
  have hx := B.exec
  have hb := B.bytes
  have hr := B.returns
  have hts0 := atoms_spec (ws := (ws_ yX7_leaving cX7_leaving 7 (some .int))) B.pre
  have hts : ∀ w ∈ lw_all, w.before args s = true := fun w h => hts0 w (List.mem_cons_of_mem _ h)
  have hown : s.vm.findClass RX7 = some m.cls := findClass_of_methodNamed B.named
  have hlocks := B.notSynchronized
  obtain ⟨Q, hQ⟩ : ∃ Q, Q = MQ below (vp_Si (fun r => r = fX7_leaving f tb v c9)) args s 0 0 (fun _ => False) := ⟨_, rfl⟩
  rw [← hQ]
  have hl := lv_entry ([.ref o, .int tb, .int v, .int c9]) (n := 7) (Nat.le_of_ble_eq_true rfl)
  rw [ha, lg_entry_eq, ← ha]
  generalize (lg_sl ([.ref o, .int tb, .int v, .int c9]) ++ List.replicate (7 - (lg_sl ([.ref o, .int tb, .int v, .int c9])).length) Slot.unset).toArray = ls at hl ⊢
  have hl : lv_has ls 7 [(0, .ref o), (1, .int tb), (2, .int v), (3, .int c9)] := hl
  show W p l e rmX7_leaving s m args below meth c s.heap [] 0 0 Q (F0 m 0 ls [])
  have hF : fX7_leaving f tb v c9 = fX7_leaving f tb v c9 := rfl
  refine lv_aload_n hx hb dX7_leaving_0 rfl (lv_at hl 0 rfl) ?_
  refine lv_iload_n hx hb dX7_leaving_1 rfl (lv_at hl 1 rfl) ?_
  refine lv_iload_n hx hb dX7_leaving_2 rfl (lv_at hl 2 rfl) ?_
  refine k_calli (W.runV (As := [.int tb, .int v]) (rest := []) ⟨hx, hb, hml, hown, hts0⟩ (mX7_sitting l dC dI cI o q0 q1 f x M h tb v (by first | omega | assumption)) (cwV 2 hts0 (gi_V u_958 u_960 us_23 u_7 u_961) rfl rfl rfl (by decide +kernel) ⟨Nat.le_of_ble_eq_true rfl, Nat.le_of_ble_eq_true rfl⟩) (pcR_V (ci := 5) (q0 := 0) hP hK hn rfl rfl) rfl rfl hl.1 rfl (lv_room (Nat.le_of_ble_eq_true rfl)) dX7_leaving_3 ⟨Nat.zero_le _, Nat.zero_le _⟩) ?_
  refine lv_istore (lv' := [(4, .int (fX7_sitting f tb v)), (0, .ref o), (1, .int tb), (2, .int v), (3, .int c9)]) hx hb dX7_leaving_6 hl (by decide) rfl (fun ls hl => ?_)
  refine lv_aload_n hx hb dX7_leaving_8 rfl (lv_at hl 1 rfl) ?_
  refine lv_iload_n hx hb dX7_leaving_9 rfl (lv_at hl 2 rfl) ?_
  refine lv_iload_n hx hb dX7_leaving_10 rfl (lv_at hl 4 rfl) ?_
  refine k_calli (W.runV (As := [.int tb, .int c9]) (rest := []) ⟨hx, hb, hml, hown, hts0⟩ (mX7_sitting l dC dI cI o q0 q1 f x M h tb c9 (by first | omega | assumption)) (cwV 2 hts0 (gi_V u_958 u_960 us_23 u_7 u_961) rfl rfl rfl (by decide +kernel) ⟨Nat.le_of_ble_eq_true rfl, Nat.le_of_ble_eq_true rfl⟩) (pcR_V (ci := 5) (q0 := 0) hP hK hn rfl rfl) rfl rfl hl.1 rfl (lv_room (Nat.le_of_ble_eq_true rfl)) dX7_leaving_11 ⟨Nat.zero_le _, Nat.zero_le _⟩) ?_
  refine lv_istore (lv' := [(5, .int (fX7_sitting f tb c9)), (4, .int (fX7_sitting f tb v)), (0, .ref o), (1, .int tb), (2, .int v), (3, .int c9)]) hx hb dX7_leaving_14 hl (by decide) rfl (fun ls hl => ?_)
  refine lv_iload hx hb dX7_leaving_16 (lv_at hl 1 rfl) ?_
  refine lv_if_eq (tgt := 26) hx hb dX7_leaving_18 (by decide) (fun c_18 => ?_) (fun c_18 => ?_)
  · have hF := hF.trans (if_pos c_18)
    refine lv_iconst (v := (-1)) hx hb dX7_leaving_26 (by decide) ?_
    rw [hQ]
    exact W.iret (v := (-1)) hx hb hr (fun t ht hW => ⟨(-1), rfl, hF.symm, ht⟩) (fun q hq => absurd hq List.not_mem_nil) dX7_leaving_27
  have hF := hF.trans (if_neg c_18)
  refine lv_iload hx hb dX7_leaving_21 (lv_at hl 0 rfl) ?_
  refine lv_if_ne (tgt := 28) hx hb dX7_leaving_23 (by decide) (fun c_23 => ?_) (fun c_23 => ?_)
  · have hF := hF.trans (if_neg c_23)
    refine lv_iload_n hx hb dX7_leaving_28 rfl (lv_at hl 4 rfl) ?_
    refine lv_iload_n hx hb dX7_leaving_29 rfl (lv_at hl 5 rfl) ?_
    have K30 : ∀ (v30_0 : Int32), v30_0 = (if v ≤ c9 then c9 else v) → ∀ (ls : Array Slot), lv_has ls 7 [(5, .int (fX7_sitting f tb c9)), (4, .int (fX7_sitting f tb v)), (0, .ref o), (1, .int tb), (2, .int v), (3, .int c9)] → W p l e rmX7_leaving s m args below meth c s.heap [] 0 0 Q (F0 m 38 ls [.int v30_0]) := by
      intro v30_0 hz30  ls hl
      have hz := hz30
      have hF := bd_at hF hz
      refine lv_istore (lv' := [(6, .int v30_0), (5, .int (fX7_sitting f tb c9)), (4, .int (fX7_sitting f tb v)), (0, .ref o), (1, .int tb), (2, .int v), (3, .int c9)]) hx hb dX7_leaving_38 hl (by decide) rfl (fun ls hl => ?_)
      refine lv_iload hx hb dX7_leaving_40 (lv_at hl 2 rfl) ?_
      refine lv_iload hx hb dX7_leaving_42 (lv_at hl 1 rfl) ?_
      refine lv_icmp_ge (tgt := 51) hx hb dX7_leaving_44 (by decide) (fun c_44 => ?_) (fun c_44 => ?_)
      · have hF := hF.trans (if_pos c_44)
        refine lv_iload hx hb dX7_leaving_51 (lv_at hl 1 rfl) ?_
        refine lv_iload hx hb dX7_leaving_53 (lv_at hl 2 rfl) ?_
        refine lv_icmp_ge (tgt := 62) hx hb dX7_leaving_55 (by decide) (fun c_55 => ?_) (fun c_55 => ?_)
        · have hF := hF.trans (if_pos c_55)
          refine lv_iload hx hb dX7_leaving_62 (lv_at hl 0 rfl) ?_
          rw [hQ]
          exact W.iret (v := v30_0) hx hb hr (fun t ht hW => ⟨v30_0, rfl, hF.symm, ht⟩) (fun q hq => absurd hq List.not_mem_nil) dX7_leaving_64
        have hF := hF.trans (if_neg c_55)
        refine lv_iload_n hx hb dX7_leaving_58 rfl (lv_at hl 6 rfl) ?_
        refine lv_goto (tgt := 64) hx hb dX7_leaving_59 (by decide) ?_
        rw [hQ]
        exact W.iret (v := c9) hx hb hr (fun t ht hW => ⟨c9, rfl, hF.symm, ht⟩) (fun q hq => absurd hq List.not_mem_nil) dX7_leaving_64
      have hF := hF.trans (if_neg c_44)
      refine lv_iload_n hx hb dX7_leaving_47 rfl (lv_at hl 5 rfl) ?_
      refine lv_goto (tgt := 64) hx hb dX7_leaving_48 (by decide) ?_
      rw [hQ]
      exact W.iret (v := v) hx hb hr (fun t ht hW => ⟨v, rfl, hF.symm, ht⟩) (fun q hq => absurd hq List.not_mem_nil) dX7_leaving_64
    have hF : ((if v ≤ c9 then c9 else v) : Int32) = (if v ≤ c9 then c9 else v) := rfl
    refine lv_icmp_le (tgt := 37) hx hb dX7_leaving_30 (by decide) (fun c_30 => ?_) (fun c_30 => ?_)
    · have hF := hF.trans (if_pos c_30)
      refine lv_iload_n hx hb dX7_leaving_37 rfl (lv_at hl 5 rfl) ?_
      exact K30 _ hF.symm  ls (lv_sub hl [0, 1, 2, 3, 4, 5] rfl)
    have hF := hF.trans (if_neg c_30)
    refine lv_iload_n hx hb dX7_leaving_33 rfl (lv_at hl 4 rfl) ?_
    refine lv_goto (tgt := 38) hx hb dX7_leaving_34 (by decide) ?_
    exact K30 _ hF.symm  ls (lv_sub hl [0, 1, 2, 3, 4, 5] rfl)
  have hF := hF.trans (if_pos c_23)
  refine lv_iconst (v := (-1)) hx hb dX7_leaving_26 (by decide) ?_
  rw [hQ]
  exact W.iret (v := (-1)) hx hb hr (fun t ht hW => ⟨(-1), rfl, hF.symm, ht⟩) (fun q hq => absurd hq List.not_mem_nil) dX7_leaving_27

def fX7_leavers_b5 (f : Nat → Int32) (v : Int32) (c9 : Int32) (kk5 : Nat) (x5_3 : Int32) (nextkk5 : Int32 → Int32) : Int32 :=
  (bd ((if (fX7_leaving f (nI kk5) v c9) = (-1) then 0 else (fX7_sitting f (nI kk5) (fX7_leaving f (nI kk5) v c9))) : Int32) (fun v30_0 => (nextkk5 (x5_3 + v30_0))))
def fX7_leavers_r5 (x5_3 : Int32) : Int32 :=
  x5_3
def fX7_leavers (f : Nat → Int32) (v : Int32) (c9 : Int32) : Int32 :=
  (lq1 (fX7_leavers_b5 f v c9) fX7_leavers_r5 ((f 1).toNatClampNeg) 0 0)
abbrev rmX7_leavers : Room := { frames := 3, cells := 0, slots := 0, locals := 73 }
set_option maxHeartbeats 4000000 in
set_option maxRecDepth 100000 in
theorem mX7_leavers (l : Launch) (dC : Nat → ClassId) (dI : Nat → Nat → Nat) (cI : ClassId) (o q0 q1 : Nat) (f x M : Nat → Int32) (h : Int64) (v : Int32) (c9 : Int32) (hR : RW f 0) : Met l yX7_leavers (ws_ yX7_leavers cX7_leavers 6 (some .int)) rmX7_leavers (pcR (dC, dI) [(cI, .int)] (mW cI o q0 q1 f x M h) [.ref o, .int v, .int c9]) (vp_Si (fun r => r = fX7_leavers f v c9)) 0 0 (fun _ => False) := by
  refine Met.ofW (cc := cX7_leavers) (maxL := 6) (ret := (some .int)) (by decide) rfl ?_
  intro p e s m args below meth c s₁ B hml hv
  obtain ⟨ha, hP, hK, hn⟩ := hv
  have hx := B.exec
  have hb := B.bytes
  have hr := B.returns
  have hts0 := atoms_spec (ws := (ws_ yX7_leavers cX7_leavers 6 (some .int))) B.pre
  have hts : ∀ w ∈ lw_all, w.before args s = true := fun w h => hts0 w (List.mem_cons_of_mem _ h)
  have hown : s.vm.findClass RX7 = some m.cls := findClass_of_methodNamed B.named
  have hlocks := B.notSynchronized
  have htX7 : ∀ w ∈ wsX70, w.before args s = true := fun w h => hts w (wX7 w h)
  obtain ⟨Q, hQ⟩ : ∃ Q, Q = MQ below (vp_Si (fun r => r = fX7_leavers f v c9)) args s 0 0 (fun _ => False) := ⟨_, rfl⟩
  rw [← hQ]
  have hl := lv_entry ([.ref o, .int v, .int c9]) (n := 6) (Nat.le_of_ble_eq_true rfl)
  rw [ha, lg_entry_eq, ← ha]
  generalize (lg_sl ([.ref o, .int v, .int c9]) ++ List.replicate (6 - (lg_sl ([.ref o, .int v, .int c9])).length) Slot.unset).toArray = ls at hl ⊢
  have hl : lv_has ls 6 [(0, .ref o), (1, .int v), (2, .int c9)] := hl
  show W p l e rmX7_leavers s m args below meth c s.heap [] 0 0 Q (F0 m 0 ls [])
  have hF : fX7_leavers f v c9 = fX7_leavers f v c9 := rfl
  refine lv_iconst (v := 0) hx hb dX7_leavers_0 (by decide) ?_
  refine lv_istore_n (lv' := [(3, .int 0), (0, .ref o), (1, .int v), (2, .int c9)]) hx hb dX7_leavers_1 rfl hl (by decide) rfl (fun ls hl => ?_)
  refine lv_iconst (v := 0) hx hb dX7_leavers_2 (by decide) ?_
  refine lv_istore (lv' := [(4, .int 0), (3, .int 0), (0, .ref o), (1, .int v), (2, .int c9)]) hx hb dX7_leavers_3 hl (by decide) rfl (fun ls hl => ?_)
  have L5 : ∀ (jj5 kk5 : Nat) (x5_3 : Int32), kk5 + jj5 = ((f 1).toNatClampNeg) → fX7_leavers f v c9 = lq1 (fX7_leavers_b5 f v c9) fX7_leavers_r5 jj5 kk5 x5_3 → ∀ (ls : Array Slot), lv_has ls 6 [(4, .int (nI kk5)), (3, .int x5_3), (0, .ref o), (1, .int v), (2, .int c9)] → W p l e rmX7_leavers s m args below meth c s.heap [] 0 0 Q (F0 m 5 ls []) := by
    intro jj5
    induction jj5 using Nat.strongRecOn with
    | _ jj5 ihkk5 =>
      intro kk5 x5_3 hkkk5 hF  ls hl
      refine lv_iload hx hb dX7_leavers_5 (lv_at hl 0 rfl) ?_
      refine lv_aload_n hx hb dX7_leavers_7 rfl (lv_at hl 2 rfl) ?_
      refine va_get (D := (dC, dI)) (ci := 5) (v := .ref q0) (C := RX7) (T := TX7) (N := 12) hx hb htX7 (fun _ h => h) hown hK hP 0 rfl rfl 1 (by decide) (hts _ u_858) (fun _ h9 => h9) rfl dX7_leavers_8 ?_
      refine lv_iconst (v := 1) hx hb dX7_leavers_11 (by decide) ?_
      refine va_iald hx hb hK hP 1 0 rfl rfl (vp_in_nI (n := 1) (by omega) (by decide)) dX7_leavers_12 ?_
      refine lv_tope (y := (f 1)) (at_nI (k := 1) (by omega)) ?_
      refine lv_icmp_ge (tgt := 53) hx hb dX7_leavers_13 (by decide) (fun c_13 => ?_) (fun c_13 => ?_)
      · obtain rfl := cn_exit hkkk5 c_13
        have hF := hF.trans (lq1_z _ _ _ _)
        refine lv_iload_n hx hb dX7_leavers_53 rfl (lv_at hl 1 rfl) ?_
        rw [hQ]
        exact W.iret (v := x5_3) hx hb hr (fun t ht hW => ⟨x5_3, rfl, hF.symm, ht⟩) (fun q hq => absurd hq List.not_mem_nil) dX7_leavers_54
      obtain ⟨jj5, rfl⟩ := cn_go hkkk5 c_13
      have hF := hF.trans (lq1_s _ _ _ _ _)
      obtain ⟨nextkk5, hnextkk5⟩ : ∃ y9, y9 = lq1 (fX7_leavers_b5 f v c9) fX7_leavers_r5 jj5 (kk5 + 1) := ⟨_, rfl⟩
      rw [← hnextkk5] at hF
      refine lv_aload_n hx hb dX7_leavers_16 rfl (lv_at hl 2 rfl) ?_
      refine lv_iload hx hb dX7_leavers_17 (lv_at hl 0 rfl) ?_
      refine lv_iload_n hx hb dX7_leavers_19 rfl (lv_at hl 3 rfl) ?_
      refine lv_iload_n hx hb dX7_leavers_20 rfl (lv_at hl 4 rfl) ?_
      refine k_calli (W.runV (As := [.int (nI kk5), .int v, .int c9]) (rest := []) ⟨hx, hb, hml, hown, hts0⟩ (mX7_leaving l dC dI cI o q0 q1 f x M h (nI kk5) v c9 (by first | omega | assumption)) (cwV 3 hts0 (gi_V u_954 u_956 us_22 u_7 u_957) rfl rfl rfl (by decide +kernel) ⟨Nat.le_of_ble_eq_true rfl, Nat.le_of_ble_eq_true rfl⟩) (pcR_V (ci := 5) (q0 := 0) hP hK hn rfl rfl) rfl rfl hl.1 rfl (lv_room (Nat.le_of_ble_eq_true rfl)) dX7_leavers_21 ⟨Nat.zero_le _, Nat.zero_le _⟩) ?_
      refine lv_istore (lv' := [(5, .int (fX7_leaving f (nI kk5) v c9)), (4, .int (nI kk5)), (3, .int x5_3), (0, .ref o), (1, .int v), (2, .int c9)]) hx hb dX7_leavers_24 hl (by decide) rfl (fun ls hl => ?_)
      refine lv_iload_n hx hb dX7_leavers_26 rfl (lv_at hl 2 rfl) ?_
      refine lv_iload hx hb dX7_leavers_27 (lv_at hl 0 rfl) ?_
      refine lv_iconst (v := (-1)) hx hb dX7_leavers_29 (by decide) ?_
      have K30 : ∀ (v30_0 : Int32), v30_0 = (if (fX7_leaving f (nI kk5) v c9) = (-1) then 0 else (fX7_sitting f (nI kk5) (fX7_leaving f (nI kk5) v c9))) → ∀ (ls : Array Slot), lv_has ls 6 [(5, .int (fX7_leaving f (nI kk5) v c9)), (4, .int (nI kk5)), (3, .int x5_3), (0, .ref o), (1, .int v), (2, .int c9)] → W p l e rmX7_leavers s m args below meth c s.heap [] 0 0 Q (F0 m 45 ls [.int v30_0, .int x5_3]) := by
        intro v30_0 hz30  ls hl
        have hz := hz30
        have hF := bd_at hF hz
        refine lv_iadd hx hb dX7_leavers_45 ?_
        refine lv_istore_n (lv' := [(3, .int (x5_3 + v30_0)), (5, .int (fX7_leaving f (nI kk5) v c9)), (4, .int (nI kk5)), (0, .ref o), (1, .int v), (2, .int c9)]) hx hb dX7_leavers_46 rfl hl (by decide) rfl (fun ls hl => ?_)
        refine lv_iinc (v := (nI (kk5 + 1))) (lv' := [(4, .int (nI (kk5 + 1))), (3, .int (x5_3 + v30_0)), (5, .int (fX7_leaving f (nI kk5) v c9)), (0, .ref o), (1, .int v), (2, .int c9)]) hx hb dX7_leavers_47 hl (k := 2) rfl (nI_1 _) (by decide) rfl (fun ls hl => ?_)
        refine lv_goto (tgt := 5) hx hb dX7_leavers_50 (by decide) ?_
        have hF : fX7_leavers f v c9 = nextkk5 (x5_3 + v30_0) := hF
        rw [hnextkk5] at hF
        exact ihkk5 jj5 (Nat.lt_succ_self _) (kk5 + 1) (x5_3 + v30_0) (cn_next hkkk5) hF ls (lv_sub hl [0, 1, 3, 4, 5] rfl)
      have hF : ((if (fX7_leaving f (nI kk5) v c9) = (-1) then 0 else (fX7_sitting f (nI kk5) (fX7_leaving f (nI kk5) v c9))) : Int32) = (if (fX7_leaving f (nI kk5) v c9) = (-1) then 0 else (fX7_sitting f (nI kk5) (fX7_leaving f (nI kk5) v c9))) := rfl
      refine lv_icmp_ne (tgt := 37) hx hb dX7_leavers_30 (by decide) (fun c_30 => ?_) (fun c_30 => ?_)
      · have hF := hF.trans (if_neg c_30)
        refine lv_aload_n hx hb dX7_leavers_37 rfl (lv_at hl 3 rfl) ?_
        refine lv_iload hx hb dX7_leavers_38 (lv_at hl 1 rfl) ?_
        refine lv_iload hx hb dX7_leavers_40 (lv_at hl 0 rfl) ?_
        refine k_calli (W.runV (As := [.int (nI kk5), .int (fX7_leaving f (nI kk5) v c9)]) (rest := [.int x5_3]) ⟨hx, hb, hml, hown, hts0⟩ (mX7_sitting l dC dI cI o q0 q1 f x M h (nI kk5) (fX7_leaving f (nI kk5) v c9) (by first | omega | assumption)) (cwV 2 hts0 (gi_V u_958 u_960 us_23 u_7 u_961) rfl rfl rfl (by decide +kernel) ⟨Nat.le_of_ble_eq_true rfl, Nat.le_of_ble_eq_true rfl⟩) (pcR_V (ci := 5) (q0 := 0) hP hK hn rfl rfl) rfl rfl hl.1 rfl (lv_room (Nat.le_of_ble_eq_true rfl)) dX7_leavers_42 ⟨Nat.zero_le _, Nat.zero_le _⟩) ?_
        exact K30 _ hF.symm  ls (lv_sub hl [0, 1, 2, 3, 4, 5] rfl)
      have hF := hF.trans (if_pos c_30)
      refine lv_iconst (v := 0) hx hb dX7_leavers_33 (by decide) ?_
      refine lv_goto (tgt := 45) hx hb dX7_leavers_34 (by decide) ?_
      exact K30 _ hF.symm  ls (lv_sub hl [0, 1, 2, 3, 4, 5] rfl)
  exact L5 ((f 1).toNatClampNeg) 0 0 (Nat.zero_add _) hF ls (lv_sub hl [0, 1, 2, 3, 4] rfl)
