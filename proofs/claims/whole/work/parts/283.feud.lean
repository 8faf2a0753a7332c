def fX7_feud_b103 (nextkk79 : Int32 → (Nat → Int32) → (Int32 × ((Nat → Int32) × (Nat → Int32)))) (v : Int32) (a : Int32) (kk79 : Nat) (U79_1 : Nat → Int32) (kk103 : Nat) (x103_5 : Int32) (U103_1 : Nat → Int32) (nextkk103 : Int32 → (Nat → Int32) → (Int32 × ((Nat → Int32) × (Nat → Int32)))) : Int32 × ((Nat → Int32) × (Nat → Int32)) :=
  (if (fX7_leaving U79_1 (nI kk79) v a) = (-1) then (nextkk79 x103_5 U103_1) else (bd2 ((if (fX7_of U103_1 0 kk103 3) = (nI kk79) then (if (fX7_of U103_1 0 kk103 0) = (fX7_leaving U79_1 (nI kk79) v a) then (bd (fX7_standsUp U103_1 0 kk103) (fun U150 => ((x103_5 + 1), U150))) else (x103_5, U103_1)) else (x103_5, U103_1)) : Int32 × (Nat → Int32)) (fun v130_0 U130_1 => (nextkk103 v130_0 U130_1))))
def fX7_feud_r103 (nextkk79 : Int32 → (Nat → Int32) → (Int32 × ((Nat → Int32) × (Nat → Int32)))) (x103_5 : Int32) (U103_1 : Nat → Int32) : Int32 × ((Nat → Int32) × (Nat → Int32)) :=
  (nextkk79 x103_5 U103_1)
def fX7_feud_b79 (f : Nat → Int32) (v : Int32) (a : Int32) (kk79 : Nat) (x79_5 : Int32) (U79_1 : Nat → Int32) (nextkk79 : Int32 → (Nat → Int32) → (Int32 × ((Nat → Int32) × (Nat → Int32)))) : Int32 × ((Nat → Int32) × (Nat → Int32)) :=
  (lq2 (fX7_feud_b103 nextkk79 v a kk79 U79_1) (fX7_feud_r103 nextkk79) ((f 0).toNatClampNeg) 0 x79_5 U79_1)
def fX7_feud_r79 (v : Int32) (a : Int32) (U70 : (Nat → Int32) × (Nat → Int32)) (x79_5 : Int32) (U79_1 : Nat → Int32) : Int32 × ((Nat → Int32) × (Nat → Int32)) :=
  (x79_5, ((upd (upd U79_1 (10 + (U79_1 2).toNatClampNeg) (fX7_feudOf v a)) 2 (((upd U79_1 (10 + (U79_1 2).toNatClampNeg) (fX7_feudOf v a)) 2) + 1)), U70.2))
def fX7_feud (f : Nat → Int32) (M : Nat → Int32) (v : Int32) (a : Int32) : Int32 × ((Nat → Int32) × (Nat → Int32)) :=
  (bd ((if (fX7_arePair v a) = 0 then 0 else (if (fX7_feudPlace f 0 (fX7_feudOf v a)) = (-1) then 0 else 1)) : Nat) (fun v7_0 => (bd ((if (fX7_arePair v a) = 0 then 1 else (if (nI v7_0) = 0 then (if (f 2) = 8 then 2 else 0) else 2)) : Nat) (fun v33_0 => (bd2 (fX7_holds M (nI v33_0)) (fun r61 U61 => (if r61 = 0 then (0, (f, U61)) else (bd (fX7_save f U61) (fun U70 => (lq2 (fX7_feud_b79 f v a) (fX7_feud_r79 v a U70) ((U70.1 1).toNatClampNeg) 0 0 U70.1))))))))))
abbrev rmX7_feud : Room := { frames := 3, cells := 0, slots := 0, locals := 73 }
set_option maxHeartbeats 4000000 in
set_option maxRecDepth 100000 in
theorem mX7_feud (l : Launch) (dC : Nat → ClassId) (dI : Nat → Nat → Nat) (cI : ClassId) (o q0 q1 : Nat) (f x M : Nat → Int32) (h : Int64) (v : Int32) (a : Int32) (hR : RW f 0) (G9 : Nat) (L9 : List Nat) (hL : RO f 0 G9 L9) (m1 : Nat) (hm1 : m1 ≤ 6) (em1 : M 1 = nI m1) : Met l yX7_feud (ws_ yX7_feud cX7_feud 9 (some .int)) rmX7_feud (pcM (dC, dI) [(cI, .int)] (mW cI o q0 q1 f x M h) [.ref o, .int v, .int a]) (va_Qi (fun (r9 : Int32) (u9 : (Nat → Int32) × (Nat → Int32)) => (r9, u9) = fX7_feud f M v a) (fun u9 t => va_P (dC, dI) vwCl ((fun (v9 : (Nat → Int32) × (Nat → Int32)) => mW cI o q0 q1 v9.1 x v9.2 h) u9) t.heap) (adr (mW cI o q0 q1 f x M h))) 0 0 (adr (mW cI o q0 q1 f x M h)) := by
  refine Met.ofW (cc := cX7_feud) (maxL := 9) (ret := (some .int)) (by decide) rfl ?_
  intro p e s m args below meth c s₁ B hml hv
  obtain ⟨ha, hP, hK, hn, hD0⟩ := hv
  have hx := B.exec
  have hb := B.bytes
  have hr := B.returns
  have hts0 := atoms_spec (ws := (ws_ yX7_feud cX7_feud 9 (some .int))) B.pre
  have hts : ∀ w ∈ lw_all, w.before args s = true := fun w h => hts0 w (List.mem_cons_of_mem _ h)
  have hown : s.vm.findClass RX7 = some m.cls := findClass_of_methodNamed B.named
  have hlocks := B.notSynchronized
  have htX7 : ∀ w ∈ wsX70, w.before args s = true := fun w h => hts w (wX7 w h)
  have hD := adr_self hD0
  obtain ⟨A, hA⟩ : ∃ A, A = adr (mW cI o q0 q1 f x M h) := ⟨_, rfl⟩
  rw [← hA] at hD
  have hS : va_S A s.heap s.heap [] := va_S.rf
  obtain ⟨Q, hQ⟩ : ∃ Q, Q = MQ below (va_Qi (fun (r9 : Int32) (u9 : (Nat → Int32) × (Nat → Int32)) => (r9, u9) = fX7_feud f M v a) (fun u9 t => va_P (dC, dI) vwCl ((fun (v9 : (Nat → Int32) × (Nat → Int32)) => mW cI o q0 q1 v9.1 x v9.2 h) u9) t.heap) (adr (mW cI o q0 q1 f x M h))) args s 0 0 (adr (mW cI o q0 q1 f x M h)) := ⟨_, rfl⟩
  rw [← hQ]
  rw [← hA] at hQ
  have hl := lv_entry ([.ref o, .int v, .int a]) (n := 9) (Nat.le_of_ble_eq_true rfl)
  rw [ha, lg_entry_eq, ← ha]
  generalize (lg_sl ([.ref o, .int v, .int a]) ++ List.replicate (9 - (lg_sl ([.ref o, .int v, .int a])).length) Slot.unset).toArray = ls at hl ⊢
  have hl : lv_has ls 9 [(0, .ref o), (1, .int v), (2, .int a)] := hl
  show W p l e rmX7_feud s m args below meth c s.heap [] 0 0 Q (F0 m 0 ls [])
  have hF : fX7_feud f M v a = fX7_feud f M v a := rfl
  obtain ⟨-, rG0, rT0, -⟩ := id hR
  have rG : (f 0).toNatClampNeg ≤ 16 := rG0.c (by decide)
  have rT : (f 1).toNatClampNeg ≤ 4 := rT0.c (by decide)
  refine lv_iload_n hx hb dX7_feud_0 rfl (lv_at hl 1 rfl) ?_
  refine lv_iload_n hx hb dX7_feud_1 rfl (lv_at hl 2 rfl) ?_
  refine k_callb (W.runS (As := [.int v, .int a]) (rest := []) ⟨hx, hb, hml, hown, hts0⟩ (mX7_arePair l dC dI  v a) (va_cwS 2 hts0 (gi_S u_944 u_945 u_7 u_946) rfl rfl rfl (by decide +kernel) ⟨Nat.le_of_ble_eq_true rfl, Nat.le_of_ble_eq_true rfl⟩) (pcR_S (hP.sub (ws' := []) [] rfl) (hK.sub (tys' := []) [] rfl) hn) rfl rfl hl.1 rfl (lv_room (Nat.le_of_ble_eq_true rfl)) dX7_feud_2 ⟨Nat.zero_le _, Nat.zero_le _⟩) (fun br2 => ?_)
  refine lv_istore_n (lv' := [(3, .int (fX7_arePair v a)), (0, .ref o), (1, .int v), (2, .int a)]) hx hb dX7_feud_5 rfl hl (by decide) rfl (fun ls hl => ?_)
  refine lv_iload_n hx hb dX7_feud_6 rfl (lv_at hl 0 rfl) ?_
  have K7 : ∀ (v7_0 : Nat), v7_0 = (if (fX7_arePair v a) = 0 then 0 else (if (fX7_feudPlace f 0 (fX7_feudOf v a)) = (-1) then 0 else 1)) → ∀ (H : Heap) (locs : List Loc), va_P (dC, dI) vwCl (mW cI o q0 q1 f x M h) H → va_D A (mW cI o q0 q1 f x M h) → va_S A s.heap H locs → ∀ (ls : Array Slot), lv_has ls 9 [(3, .int (fX7_arePair v a)), (0, .ref o), (1, .int v), (2, .int a)] → W p l e rmX7_feud s m args below meth c H locs 0 0 Q (F0 m 29 ls [.int (nI v7_0)]) := by
    intro v7_0 hz7 H locs hP hD hS ls hl
    have hz := hz7
    have bz7 : (nI v7_0 : Int32) = 0 ∨ nI v7_0 = 1 := by rw [hz]; (repeat' split); all_goals first | exact Or.inl rfl | exact Or.inr rfl
    have hF := bd_at hF hz
    refine lv_istore (lv' := [(4, .int (nI v7_0)), (3, .int (fX7_arePair v a)), (0, .ref o), (1, .int v), (2, .int a)]) hx hb dX7_feud_29 hl (by decide) rfl (fun ls hl => ?_)
    refine lv_aload_n hx hb dX7_feud_31 rfl (lv_at hl 2 rfl) ?_
    refine lv_iload_n hx hb dX7_feud_32 rfl (lv_at hl 1 rfl) ?_
    have K33 : ∀ (v33_0 : Nat), v33_0 = (if (fX7_arePair v a) = 0 then 1 else (if (nI v7_0) = 0 then (if (f 2) = 8 then 2 else 0) else 2)) → ∀ (H : Heap) (locs : List Loc), va_P (dC, dI) vwCl (mW cI o q0 q1 f x M h) H → va_D A (mW cI o q0 q1 f x M h) → va_S A s.heap H locs → ∀ (ls : Array Slot), lv_has ls 9 [(4, .int (nI v7_0)), (3, .int (fX7_arePair v a)), (0, .ref o), (1, .int v), (2, .int a)] → W p l e rmX7_feud s m args below meth c H locs 0 0 Q (F0 m 61 ls [.int (nI v33_0), .ref o]) := by
      intro v33_0 hz33 H locs hP hD hS ls hl
      have hz := hz33
      have hF := bd_at hF hz
      refine k_muti (Wd := (fun (v9 : (Nat → Int32)) => mW cI o q0 q1 f x v9 h)) (va_runV (As := [.int (nI v33_0)]) (rest := []) ⟨hx, hb, hml, hown, hts0⟩ (mX7_holds l dC dI cI o q0 q1 f x M h (nI v33_0)) (cwV 1 hts0 (gi_V u_908 u_910 us_15 u_7 u_911) rfl rfl rfl (by decide +kernel) ⟨Nat.le_of_ble_eq_true rfl, Nat.le_of_ble_eq_true rfl⟩) (pcM_V (ci := 5) (q0 := 0) hP hK hn hD rfl rfl) rfl rfl hl.1 rfl (lv_room (Nat.le_of_ble_eq_true rfl)) dX7_feud_61 ⟨Nat.zero_le _, Nat.zero_le _⟩) hP hD hS [0, 1, 2] rfl rfl (fun _ => rfl) (fun r61 U61 H locs hU61 hP hD hS => ?_)
      obtain ⟨hU61, br61⟩ := hU61
      have hP : va_P (dC, dI) vwCl (mW cI o q0 q1 f x U61 h) H := hP
      have hD : va_D A (mW cI o q0 q1 f x U61 h) := hD
      have hF := bd2_at hF hU61
      refine lv_if_ne (tgt := 69) hx hb dX7_feud_64 (by decide) (fun c_64 => ?_) (fun c_64 => ?_)
      · have hF := hF.trans (if_neg c_64)
        have em2 : U61 1 = nI m1 := (holds_M hU61 (by decide)).trans em1
        refine lv_aload_n hx hb dX7_feud_69 rfl (lv_at hl 2 rfl) ?_
        refine k_mutv (Wd := (fun (v9 : (Nat → Int32) × (Nat → Int32)) => mW cI o q0 q1 v9.1 x v9.2 h)) (va_runV (As := []) (rest := []) ⟨hx, hb, hml, hown, hts0⟩ (mX7_save l dC dI cI o q0 q1 f x U61 h  m1 hm1 em2) (cwV 0 hts0 (gi_V u_912 u_914 us_16 u_7 u_915) rfl rfl rfl (by decide +kernel) ⟨Nat.le_of_ble_eq_true rfl, Nat.le_of_ble_eq_true rfl⟩) (pcM_V (ci := 5) (q0 := 0) hP hK hn hD rfl rfl) rfl rfl hl.1 rfl (lv_room (Nat.le_of_ble_eq_true rfl)) dX7_feud_70 ⟨Nat.zero_le _, Nat.zero_le _⟩) hP hD hS [0, 1, 2] rfl rfl (fun _ => rfl) (fun U70 H locs hU70 hP hD hS => ?_)
        have hP : va_P (dC, dI) vwCl (mW cI o q0 q1 U70.1 x U70.2 h) H := hP
        have hD : va_D A (mW cI o q0 q1 U70.1 x U70.2 h) := hD
        have hF := bd_at hF hU70
        have hR2 : RW U70.1 0 := by rw [hU70]; exact RW_save hm1 em2 hR
        obtain ⟨-, rG20, rT20, rF20, rS20, -, -⟩ := id hR2
        have hg2 : U70.1 0 = nI (U70.1 0).toNatClampNeg := rG20.e (by decide)
        have rg2 : (U70.1 0).toNatClampNeg ≤ 16 := rG20.c (by decide)
        have ht2 : U70.1 1 = nI (U70.1 1).toNatClampNeg := rT20.e (by decide)
        have rt2 : (U70.1 1).toNatClampNeg ≤ 4 := rT20.c (by decide)
        have hL2 : RO U70.1 0 G9 L9 := by rw [hU70]; exact RO_save hm1 em2 hL
        refine lv_iconst (v := 0) hx hb dX7_feud_73 (by decide) ?_
        refine lv_istore (lv' := [(5, .int 0), (4, .int (nI v7_0)), (3, .int (fX7_arePair v a)), (0, .ref o), (1, .int v), (2, .int a)]) hx hb dX7_feud_74 hl (by decide) rfl (fun ls hl => ?_)
        refine lv_iconst (v := 0) hx hb dX7_feud_76 (by decide) ?_
        refine lv_istore (lv' := [(6, .int 0), (5, .int 0), (4, .int (nI v7_0)), (3, .int (fX7_arePair v a)), (0, .ref o), (1, .int v), (2, .int a)]) hx hb dX7_feud_77 hl (by decide) rfl (fun ls hl => ?_)
        have L79 : ∀ (jj79 kk79 : Nat) (x79_5 : Int32) (U79_1 : Nat → Int32), kk79 + jj79 = ((U70.1 1).toNatClampNeg) → fX7_feud f M v a = lq2 (fX7_feud_b79 f v a) (fX7_feud_r79 v a U70) jj79 kk79 x79_5 U79_1 → (∃ L, RO U79_1 0 G9 L) ∧ U79_1 1 = U70.1 1 → ∀ (H : Heap) (locs : List Loc), va_P (dC, dI) vwCl (mW cI o q0 q1 U79_1 x U70.2 h) H → va_D A (mW cI o q0 q1 U79_1 x U70.2 h) → va_S A s.heap H locs → ∀ (ls : Array Slot), lv_has ls 9 [(6, .int (nI kk79)), (5, .int x79_5), (4, .int (nI v7_0)), (3, .int (fX7_arePair v a)), (0, .ref o), (1, .int v), (2, .int a)] → W p l e rmX7_feud s m args below meth c H locs 0 0 Q (F0 m 79 ls []) := by
          intro jj79
          induction jj79 using Nat.strongRecOn with
          | _ jj79 ihkk79 =>
            intro kk79 x79_5 U79_1 hkkk79 hF hikk79 H locs hP hD hS ls hl
            refine lv_iload hx hb dX7_feud_79 (lv_at hl 0 rfl) ?_
            refine lv_aload_n hx hb dX7_feud_81 rfl (lv_at hl 4 rfl) ?_
            refine va_get (D := (dC, dI)) (ci := 5) (v := .ref q0) (C := RX7) (T := TX7) (N := 12) hx hb htX7 (fun _ h => h) hown hK hP 0 rfl rfl 1 (by decide) (hts _ u_858) (fun _ h9 => h9) rfl dX7_feud_82 ?_
            refine lv_iconst (v := 1) hx hb dX7_feud_85 (by decide) ?_
            refine va_iald hx hb hK hP 1 0 rfl rfl (vp_in_nI (n := 1) (by omega) (by decide)) dX7_feud_86 ?_
            refine lv_tope (y := (U79_1 1)) (at_nI (k := 1) (by omega)) ?_
            refine lv_icmp_ge (tgt := 168) hx hb dX7_feud_87 (by decide) (fun c_87 => ?_) (fun c_87 => ?_)
            · obtain rfl := cn_exit hkkk79 (by rw [← hikk79.2]; exact c_87)
              have hF := hF.trans (lq2_z _ _ _ _ _)
              have hR6 := RO_RW hikk79.1
              have hf2 : U79_1 2 = nI (U79_1 2).toNatClampNeg := hR6.2.2.2.1.e (by decide)
              have rf2 : (U79_1 2).toNatClampNeg ≤ 8 := hR6.2.2.2.1.c (by decide)
              refine lv_aload_n hx hb dX7_feud_168 rfl (lv_at hl 4 rfl) ?_
              refine va_get (D := (dC, dI)) (ci := 5) (v := .ref q0) (C := RX7) (T := TX7) (N := 12) hx hb htX7 (fun _ h => h) hown hK hP 0 rfl rfl 1 (by decide) (hts _ u_858) (fun _ h9 => h9) rfl dX7_feud_169 ?_
              refine lv_bipush (v := 10) hx hb dX7_feud_172 (by decide) ?_
              refine lv_aload_n hx hb dX7_feud_174 rfl (lv_at hl 4 rfl) ?_
              refine va_get (D := (dC, dI)) (ci := 5) (v := .ref q0) (C := RX7) (T := TX7) (N := 12) hx hb htX7 (fun _ h => h) hown hK hP 0 rfl rfl 1 (by decide) (hts _ u_858) (fun _ h9 => h9) rfl dX7_feud_175 ?_
              refine lv_iconst (v := 2) hx hb dX7_feud_178 (by decide) ?_
              refine va_iald hx hb hK hP 1 0 rfl rfl (vp_in_nI (n := 2) (by omega) (by decide)) dX7_feud_179 ?_
              refine lv_tope (y := (U79_1 2)) (at_nI (k := 2) (by omega)) ?_
              refine lv_tope (y := (nI (U79_1 2).toNatClampNeg)) hf2 ?_
              refine lv_iadd hx hb dX7_feud_180 ?_
              refine lv_tope (y := (nI (10 + (U79_1 2).toNatClampNeg))) (nI_add 10 ((U79_1 2).toNatClampNeg)) ?_
              refine lv_iload_n hx hb dX7_feud_181 rfl (lv_at hl 5 rfl) ?_
              refine lv_iload_n hx hb dX7_feud_182 rfl (lv_at hl 6 rfl) ?_
              refine k_calli (W.runS (As := [.int v, .int a]) (rest := [.int (nI (10 + (U79_1 2).toNatClampNeg)), .ref q0]) ⟨hx, hb, hml, hown, hts0⟩ (mX7_feudOf l dC dI  v a) (va_cwS 2 hts0 (gi_S u_947 u_948 u_7 u_949) rfl rfl rfl (by decide +kernel) ⟨Nat.le_of_ble_eq_true rfl, Nat.le_of_ble_eq_true rfl⟩) (pcR_S (hP.sub (ws' := []) [] rfl) (hK.sub (tys' := []) [] rfl) hn) rfl rfl hl.1 rfl (lv_room (Nat.le_of_ble_eq_true rfl)) dX7_feud_183 ⟨Nat.zero_le _, Nat.zero_le _⟩) ?_
              refine va_iast hx hb hK hP hD hS 1 0 rfl rfl (vp_in_nI (n := (10 + (U79_1 2).toNatClampNeg)) (by omega) (by decide)) dX7_feud_186 (fun H locs hP hD hS => ?_)
              rw [show ((nI (10 + (U79_1 2).toNatClampNeg)) : Int32).toNatClampNeg = (10 + (U79_1 2).toNatClampNeg) from nI_clamp (n := (10 + (U79_1 2).toNatClampNeg)) (by omega)] at hP hD
              have hP : va_P (dC, dI) vwCl (mW cI o q0 q1 (upd U79_1 (10 + (U79_1 2).toNatClampNeg) (fX7_feudOf v a)) x U70.2 h) H := hP
              have hD : va_D A (mW cI o q0 q1 (upd U79_1 (10 + (U79_1 2).toNatClampNeg) (fX7_feudOf v a)) x U70.2 h) := hD
              refine lv_aload_n hx hb dX7_feud_187 rfl (lv_at hl 4 rfl) ?_
              refine va_get (D := (dC, dI)) (ci := 5) (v := .ref q0) (C := RX7) (T := TX7) (N := 12) hx hb htX7 (fun _ h => h) hown hK hP 0 rfl rfl 1 (by decide) (hts _ u_858) (fun _ h9 => h9) rfl dX7_feud_188 ?_
              refine lv_iconst (v := 2) hx hb dX7_feud_191 (by decide) ?_
              refine lv_dup2_11 hx hb dX7_feud_192 rfl rfl ?_
              refine va_iald hx hb hK hP 1 0 rfl rfl (vp_in_nI (n := 2) (by omega) (by decide)) dX7_feud_193 ?_
              refine lv_tope (y := ((upd U79_1 (10 + (U79_1 2).toNatClampNeg) (fX7_feudOf v a)) 2)) (at_nI (k := 2) (by omega)) ?_
              refine lv_iconst (v := 1) hx hb dX7_feud_194 (by decide) ?_
              refine lv_iadd hx hb dX7_feud_195 ?_
              refine va_iast hx hb hK hP hD hS 1 0 rfl rfl (vp_in_nI (n := 2) (by omega) (by decide)) dX7_feud_196 (fun H locs hP hD hS => ?_)
              rw [show (2 : Int32).toNatClampNeg = 2 from nI_clamp (n := 2) (by omega)] at hP hD
              have hP : va_P (dC, dI) vwCl (mW cI o q0 q1 (upd (upd U79_1 (10 + (U79_1 2).toNatClampNeg) (fX7_feudOf v a)) 2 (((upd U79_1 (10 + (U79_1 2).toNatClampNeg) (fX7_feudOf v a)) 2) + 1)) x U70.2 h) H := hP
              have hD : va_D A (mW cI o q0 q1 (upd (upd U79_1 (10 + (U79_1 2).toNatClampNeg) (fX7_feudOf v a)) 2 (((upd U79_1 (10 + (U79_1 2).toNatClampNeg) (fX7_feudOf v a)) 2) + 1)) x U70.2 h) := hD
              refine lv_iload hx hb dX7_feud_197 (lv_at hl 1 rfl) ?_
              rw [hQ]
              exact W.iret (v := x79_5) hx hb hr (fun t ht hW => ⟨⟨x79_5, ((upd (upd U79_1 (10 + (U79_1 2).toNatClampNeg) (fX7_feudOf v a)) 2 (((upd U79_1 (10 + (U79_1 2).toNatClampNeg) (fX7_feudOf v a)) 2) + 1)), U70.2), rfl, hF.symm, toH ht hP⟩, hS.F ht⟩) hS.2.2 dX7_feud_199
            obtain ⟨jj79, rfl⟩ := cn_go hkkk79 (by rw [← hikk79.2]; exact c_87)
            have hF := hF.trans (lq2_s _ _ _ _ _ _)
            obtain ⟨nextkk79, hnextkk79⟩ : ∃ y9, y9 = lq2 (fX7_feud_b79 f v a) (fX7_feud_r79 v a U70) jj79 (kk79 + 1) := ⟨_, rfl⟩
            rw [← hnextkk79] at hF
            refine lv_aload_n hx hb dX7_feud_90 rfl (lv_at hl 4 rfl) ?_
            refine lv_iload hx hb dX7_feud_91 (lv_at hl 0 rfl) ?_
            refine lv_iload_n hx hb dX7_feud_93 rfl (lv_at hl 5 rfl) ?_
            refine lv_iload_n hx hb dX7_feud_94 rfl (lv_at hl 6 rfl) ?_
            have hR5 := RO_RW hikk79.1
            refine k_calli (W.runV (As := [.int (nI kk79), .int v, .int a]) (rest := []) ⟨hx, hb, hml, hown, hts0⟩ (mX7_leaving l dC dI cI o q0 q1 U79_1 x U70.2 h (nI kk79) v a (RO_RW hikk79.1)) (cwV 3 hts0 (gi_V u_954 u_956 us_22 u_7 u_957) rfl rfl rfl (by decide +kernel) ⟨Nat.le_of_ble_eq_true rfl, Nat.le_of_ble_eq_true rfl⟩) (pcR_V (ci := 5) (q0 := 0) hP hK hn rfl rfl) rfl rfl hl.1 rfl (lv_room (Nat.le_of_ble_eq_true rfl)) dX7_feud_95 ⟨Nat.zero_le _, Nat.zero_le _⟩) ?_
            refine lv_istore (lv' := [(7, .int (fX7_leaving U79_1 (nI kk79) v a)), (6, .int (nI kk79)), (5, .int x79_5), (4, .int (nI v7_0)), (3, .int (fX7_arePair v a)), (0, .ref o), (1, .int v), (2, .int a)]) hx hb dX7_feud_98 hl (by decide) rfl (fun ls hl => ?_)
            refine lv_iconst (v := 0) hx hb dX7_feud_100 (by decide) ?_
            refine lv_istore (lv' := [(8, .int 0), (7, .int (fX7_leaving U79_1 (nI kk79) v a)), (6, .int (nI kk79)), (5, .int x79_5), (4, .int (nI v7_0)), (3, .int (fX7_arePair v a)), (0, .ref o), (1, .int v), (2, .int a)]) hx hb dX7_feud_101 hl (by decide) rfl (fun ls hl => ?_)
            have L103 : ∀ (jj103 kk103 : Nat) (x103_5 : Int32) (U103_1 : Nat → Int32), kk103 + jj103 = ((f 0).toNatClampNeg) → fX7_feud f M v a = lq2 (fX7_feud_b103 nextkk79 v a kk79 U79_1) (fX7_feud_r103 nextkk79) jj103 kk103 x103_5 U103_1 → (∃ L, RO U103_1 0 G9 L) ∧ U103_1 1 = U70.1 1 → ∀ (H : Heap) (locs : List Loc), va_P (dC, dI) vwCl (mW cI o q0 q1 U103_1 x U70.2 h) H → va_D A (mW cI o q0 q1 U103_1 x U70.2 h) → va_S A s.heap H locs → ∀ (ls : Array Slot), lv_has ls 9 [(8, .int (nI kk103)), (7, .int (fX7_leaving U79_1 (nI kk79) v a)), (6, .int (nI kk79)), (5, .int x103_5), (4, .int (nI v7_0)), (3, .int (fX7_arePair v a)), (0, .ref o), (1, .int v), (2, .int a)] → W p l e rmX7_feud s m args below meth c H locs 0 0 Q (F0 m 103 ls []) := by
              intro jj103
              induction jj103 using Nat.strongRecOn with
              | _ jj103 ihkk103 =>
                intro kk103 x103_5 U103_1 hkkk103 hF hikk103 H locs hP hD hS ls hl
                refine lv_iload hx hb dX7_feud_103 (lv_at hl 0 rfl) ?_
                refine lv_aload_n hx hb dX7_feud_105 rfl (lv_at hl 6 rfl) ?_
                refine va_get (D := (dC, dI)) (ci := 5) (v := .ref q0) (C := RX7) (T := TX7) (N := 12) hx hb htX7 (fun _ h => h) hown hK hP 0 rfl rfl 1 (by decide) (hts _ u_858) (fun _ h9 => h9) rfl dX7_feud_106 ?_
                refine lv_iconst (v := 0) hx hb dX7_feud_109 (by decide) ?_
                refine va_iald hx hb hK hP 1 0 rfl rfl (vp_in_nI (n := 0) (by omega) (by decide)) dX7_feud_110 ?_
                refine lv_tope (y := (U103_1 0)) (at_nI (k := 0) (by omega)) ?_
                refine lv_icmp_ge (tgt := 162) hx hb dX7_feud_111 (by decide) (fun c_111 => ?_) (fun c_111 => ?_)
                · obtain rfl := cn_exit hkkk103 (by rw [show f 0 = nI G9 from hL.2.1, ← RO_g hikk103.1]; exact c_111)
                  have hF := hF.trans (lq2_z _ _ _ _ _)
                  refine lv_iinc (v := (nI (kk79 + 1))) (lv' := [(6, .int (nI (kk79 + 1))), (8, .int (nI kk103)), (7, .int (fX7_leaving U79_1 (nI kk79) v a)), (5, .int x103_5), (4, .int (nI v7_0)), (3, .int (fX7_arePair v a)), (0, .ref o), (1, .int v), (2, .int a)]) hx hb dX7_feud_162 hl (k := 2) rfl (nI_1 _) (by decide) rfl (fun ls hl => ?_)
                  refine lv_goto (tgt := 79) hx hb dX7_feud_165 (by decide) ?_
                  have hF : fX7_feud f M v a = nextkk79 x103_5 U103_1 := hF
                  rw [hnextkk79] at hF
                  exact ihkk79 jj79 (Nat.lt_succ_self _) (kk79 + 1) x103_5 U103_1 (cn_next hkkk79) hF hikk103 _ _ hP hD hS ls (lv_sub hl [0, 3, 4, 5, 6, 7, 8] rfl)
                obtain ⟨jj103, rfl⟩ := cn_go hkkk103 (by rw [show f 0 = nI G9 from hL.2.1, ← RO_g hikk103.1]; exact c_111)
                have hF := hF.trans (lq2_s _ _ _ _ _ _)
                obtain ⟨nextkk103, hnextkk103⟩ : ∃ y9, y9 = lq2 (fX7_feud_b103 nextkk79 v a kk79 U79_1) (fX7_feud_r103 nextkk79) jj103 (kk103 + 1) := ⟨_, rfl⟩
                rw [← hnextkk103] at hF
                refine lv_iload hx hb dX7_feud_114 (lv_at hl 1 rfl) ?_
                refine lv_iconst (v := (-1)) hx hb dX7_feud_116 (by decide) ?_
                refine lv_icmp_eq (tgt := 162) hx hb dX7_feud_117 (by decide) (fun c_117 => ?_) (fun c_117 => ?_)
                · have hF := hF.trans (if_pos c_117)
                  refine lv_iinc (v := (nI (kk79 + 1))) (lv' := [(6, .int (nI (kk79 + 1))), (8, .int (nI kk103)), (7, .int (fX7_leaving U79_1 (nI kk79) v a)), (5, .int x103_5), (4, .int (nI v7_0)), (3, .int (fX7_arePair v a)), (0, .ref o), (1, .int v), (2, .int a)]) hx hb dX7_feud_162 hl (k := 2) rfl (nI_1 _) (by decide) rfl (fun ls hl => ?_)
                  refine lv_goto (tgt := 79) hx hb dX7_feud_165 (by decide) ?_
                  have hF : fX7_feud f M v a = nextkk79 x103_5 U103_1 := hF
                  rw [hnextkk79] at hF
                  exact ihkk79 jj79 (Nat.lt_succ_self _) (kk79 + 1) x103_5 U103_1 (cn_next hkkk79) hF hikk103 _ _ hP hD hS ls (lv_sub hl [0, 3, 4, 5, 6, 7, 8] rfl)
                have hF := hF.trans (if_neg c_117)
                obtain ⟨⟨L5, hL5⟩, -⟩ := id hikk103
                refine lv_aload_n hx hb dX7_feud_120 rfl (lv_at hl 6 rfl) ?_
                refine lv_iconst (v := 0) hx hb dX7_feud_121 (by decide) ?_
                refine lv_iload hx hb dX7_feud_122 (lv_at hl 0 rfl) ?_
                refine lv_iconst (v := 3) hx hb dX7_feud_124 (by decide) ?_
                refine k_calli (W.runV (As := [.int 0, .int (nI kk103), .int 3]) (rest := []) ⟨hx, hb, hml, hown, hts0⟩ (mX7_of l dC dI cI o q0 q1 U103_1 x U70.2 h 0 kk103 3 (by first | omega | assumption)) (cwV 3 hts0 (gi_V u_932 u_934 us_20 u_7 u_935) rfl rfl rfl (by decide +kernel) ⟨Nat.le_of_ble_eq_true rfl, Nat.le_of_ble_eq_true rfl⟩) (pcR_V (ci := 5) (q0 := 0) hP hK hn rfl rfl) rfl rfl hl.1 rfl (lv_room (Nat.le_of_ble_eq_true rfl)) dX7_feud_125 ⟨Nat.zero_le _, Nat.zero_le _⟩) ?_
                refine lv_iload hx hb dX7_feud_128 (lv_at hl 2 rfl) ?_
                have K130 : ∀ (v130_0 : Int32) (U130_1 : Nat → Int32), (v130_0, U130_1) = (if (fX7_of U103_1 0 kk103 3) = (nI kk79) then (if (fX7_of U103_1 0 kk103 0) = (fX7_leaving U79_1 (nI kk79) v a) then (bd (fX7_standsUp U103_1 0 kk103) (fun U150 => ((x103_5 + 1), U150))) else (x103_5, U103_1)) else (x103_5, U103_1)) → ∀ (H : Heap) (locs : List Loc), va_P (dC, dI) vwCl (mW cI o q0 q1 U130_1 x U70.2 h) H → va_D A (mW cI o q0 q1 U130_1 x U70.2 h) → va_S A s.heap H locs → ∀ (ls : Array Slot), lv_has ls 9 [(8, .int (nI kk103)), (7, .int (fX7_leaving U79_1 (nI kk79) v a)), (6, .int (nI kk79)), (5, .int v130_0), (4, .int (nI v7_0)), (3, .int (fX7_arePair v a)), (0, .ref o), (1, .int v), (2, .int a)] → W p l e rmX7_feud s m args below meth c H locs 0 0 Q (F0 m 156 ls []) := by
                  intro v130_0 U130_1 hz130 H locs hP hD hS ls hl
                  have hz := hz130
                  have hF := bd2_at hF hz
                  refine lv_iinc (v := (nI (kk103 + 1))) (lv' := [(8, .int (nI (kk103 + 1))), (7, .int (fX7_leaving U79_1 (nI kk79) v a)), (6, .int (nI kk79)), (5, .int v130_0), (4, .int (nI v7_0)), (3, .int (fX7_arePair v a)), (0, .ref o), (1, .int v), (2, .int a)]) hx hb dX7_feud_156 hl (k := 0) rfl (nI_1 _) (by decide) rfl (fun ls hl => ?_)
                  refine lv_goto (tgt := 103) hx hb dX7_feud_159 (by decide) ?_
                  have hF : fX7_feud f M v a = nextkk103 v130_0 U130_1 := hF
                  rw [hnextkk103] at hF
                  exact ihkk103 jj103 (Nat.lt_succ_self _) (kk103 + 1) v130_0 U130_1 (cn_next hkkk103) hF (feud_step hikk103 (by omega) hz130) _ _ hP hD hS ls (lv_sub hl [0, 1, 2, 3, 4, 5, 6, 7, 8] rfl)
                have hF : ((if (fX7_of U103_1 0 kk103 3) = (nI kk79) then (if (fX7_of U103_1 0 kk103 0) = (fX7_leaving U79_1 (nI kk79) v a) then (bd (fX7_standsUp U103_1 0 kk103) (fun U150 => ((x103_5 + 1), U150))) else (x103_5, U103_1)) else (x103_5, U103_1)) : Int32 × (Nat → Int32)) = (if (fX7_of U103_1 0 kk103 3) = (nI kk79) then (if (fX7_of U103_1 0 kk103 0) = (fX7_leaving U79_1 (nI kk79) v a) then (bd (fX7_standsUp U103_1 0 kk103) (fun U150 => ((x103_5 + 1), U150))) else (x103_5, U103_1)) else (x103_5, U103_1)) := rfl
                refine lv_icmp_ne (tgt := 156) hx hb dX7_feud_130 (by decide) (fun c_130 => ?_) (fun c_130 => ?_)
                · have hF := hF.trans (if_neg c_130)
                  exact K130 _ _ hF.symm _ _ hP hD hS  ls (lv_sub hl [0, 1, 2, 3, 4, 5, 6, 7, 8] rfl)
                have hF := hF.trans (if_pos c_130)
                refine lv_aload_n hx hb dX7_feud_133 rfl (lv_at hl 6 rfl) ?_
                refine lv_iconst (v := 0) hx hb dX7_feud_134 (by decide) ?_
                refine lv_iload hx hb dX7_feud_135 (lv_at hl 0 rfl) ?_
                refine lv_iconst (v := 0) hx hb dX7_feud_137 (by decide) ?_
                refine k_calli (W.runV (As := [.int 0, .int (nI kk103), .int 0]) (rest := []) ⟨hx, hb, hml, hown, hts0⟩ (mX7_of l dC dI cI o q0 q1 U103_1 x U70.2 h 0 kk103 0 (by first | omega | assumption)) (cwV 3 hts0 (gi_V u_932 u_934 us_20 u_7 u_935) rfl rfl rfl (by decide +kernel) ⟨Nat.le_of_ble_eq_true rfl, Nat.le_of_ble_eq_true rfl⟩) (pcR_V (ci := 5) (q0 := 0) hP hK hn rfl rfl) rfl rfl hl.1 rfl (lv_room (Nat.le_of_ble_eq_true rfl)) dX7_feud_138 ⟨Nat.zero_le _, Nat.zero_le _⟩) ?_
                refine lv_iload hx hb dX7_feud_141 (lv_at hl 1 rfl) ?_
                refine lv_icmp_ne (tgt := 156) hx hb dX7_feud_143 (by decide) (fun c_143 => ?_) (fun c_143 => ?_)
                · have hF := hF.trans (if_neg c_143)
                  exact K130 _ _ hF.symm _ _ hP hD hS  ls (lv_sub hl [0, 1, 2, 3, 4, 5, 6, 7, 8] rfl)
                have hF := hF.trans (if_pos c_143)
                refine lv_aload_n hx hb dX7_feud_146 rfl (lv_at hl 6 rfl) ?_
                refine lv_iconst (v := 0) hx hb dX7_feud_147 (by decide) ?_
                refine lv_iload hx hb dX7_feud_148 (lv_at hl 0 rfl) ?_
                refine k_mutv (Wd := (fun (v9 : (Nat → Int32)) => mW cI o q0 q1 v9 x U70.2 h)) (va_runV (As := [.int 0, .int (nI kk103)]) (rest := []) ⟨hx, hb, hml, hown, hts0⟩ (mX7_standsUp l dC dI cI o q0 q1 U103_1 x U70.2 h 0 kk103 hL5.1 (by omega)) (cwV 2 hts0 (gi_V u_962 u_964 us_24 u_7 u_965) rfl rfl rfl (by decide +kernel) ⟨Nat.le_of_ble_eq_true rfl, Nat.le_of_ble_eq_true rfl⟩) (pcM_V (ci := 5) (q0 := 0) hP hK hn hD rfl rfl) rfl rfl hl.1 rfl (lv_room (Nat.le_of_ble_eq_true rfl)) dX7_feud_150 ⟨Nat.zero_le _, Nat.zero_le _⟩) hP hD hS [0, 1, 2] rfl rfl (fun _ => rfl) (fun U150 H locs hU150 hP hD hS => ?_)
                have hP : va_P (dC, dI) vwCl (mW cI o q0 q1 U150 x U70.2 h) H := hP
                have hD : va_D A (mW cI o q0 q1 U150 x U70.2 h) := hD
                have hF := bd_at hF hU150
                refine lv_iinc (v := (x103_5 + 1)) (lv' := [(5, .int (x103_5 + 1)), (8, .int (nI kk103)), (7, .int (fX7_leaving U79_1 (nI kk79) v a)), (6, .int (nI kk79)), (4, .int (nI v7_0)), (3, .int (fX7_arePair v a)), (0, .ref o), (1, .int v), (2, .int a)]) hx hb dX7_feud_153 hl (k := 3) rfl rfl (by decide) rfl (fun ls hl => ?_)
                exact K130 _ _ hF.symm _ _ hP hD hS  ls (lv_sub hl [1, 2, 3, 0, 4, 5, 6, 7, 8] rfl)
            exact L103 ((f 0).toNatClampNeg) 0 x79_5 U79_1 (Nat.zero_add _) hF hikk79 _ _ hP hD hS ls (lv_sub hl [0, 1, 2, 3, 4, 5, 6, 7, 8] rfl)
        exact L79 ((U70.1 1).toNatClampNeg) 0 0 U70.1 (Nat.zero_add _) hF ⟨⟨L9, hL2⟩, rfl⟩ _ _ hP hD hS ls (lv_sub hl [0, 1, 2, 3, 4, 5, 6] rfl)
      have hF := hF.trans (if_pos c_64)
      refine lv_iconst (v := 0) hx hb dX7_feud_67 (by decide) ?_
      rw [hQ]
      exact W.iret (v := 0) hx hb hr (fun t ht hW => ⟨⟨0, (f, U61), rfl, hF.symm, toH ht hP⟩, hS.F ht⟩) hS.2.2 dX7_feud_68
    have hF : ((if (fX7_arePair v a) = 0 then 1 else (if (nI v7_0) = 0 then (if (f 2) = 8 then 2 else 0) else 2)) : Nat) = (if (fX7_arePair v a) = 0 then 1 else (if (nI v7_0) = 0 then (if (f 2) = 8 then 2 else 0) else 2)) := rfl
    refine lv_if_ne (tgt := 40) hx hb dX7_feud_33 (by decide) (fun c_33 => ?_) (fun c_33 => ?_)
    · have hF := hF.trans (if_neg c_33)
      refine lv_iload hx hb dX7_feud_40 (lv_at hl 0 rfl) ?_
      refine lv_if_ne (tgt := 56) hx hb dX7_feud_42 (by decide) (fun c_42 => ?_) (fun c_42 => ?_)
      · have hF := hF.trans (if_neg c_42)
        refine lv_iconst (v := 2) hx hb dX7_feud_56 (by decide) ?_
        refine lv_goto (tgt := 61) hx hb dX7_feud_57 (by decide) ?_
        exact K33 _ hF.symm _ _ hP hD hS  ls (lv_sub hl [0, 1, 2, 3, 4] rfl)
      have hF := hF.trans (if_pos c_42)
      refine lv_aload_n hx hb dX7_feud_45 rfl (lv_at hl 2 rfl) ?_
      refine va_get (D := (dC, dI)) (ci := 5) (v := .ref q0) (C := RX7) (T := TX7) (N := 12) hx hb htX7 (fun _ h => h) hown hK hP 0 rfl rfl 1 (by decide) (hts _ u_858) (fun _ h9 => h9) rfl dX7_feud_46 ?_
      refine lv_iconst (v := 2) hx hb dX7_feud_49 (by decide) ?_
      refine va_iald hx hb hK hP 1 0 rfl rfl (vp_in_nI (n := 2) (by omega) (by decide)) dX7_feud_50 ?_
      refine lv_tope (y := (f 2)) (at_nI (k := 2) (by omega)) ?_
      refine lv_bipush (v := 8) hx hb dX7_feud_51 (by decide) ?_
      refine lv_icmp_ne (tgt := 60) hx hb dX7_feud_53 (by decide) (fun c_53 => ?_) (fun c_53 => ?_)
      · have hF := hF.trans (if_neg c_53)
        refine lv_iconst (v := 0) hx hb dX7_feud_60 (by decide) ?_
        exact K33 _ hF.symm _ _ hP hD hS  ls (lv_sub hl [0, 1, 2, 3, 4] rfl)
      have hF := hF.trans (if_pos c_53)
      refine lv_iconst (v := 2) hx hb dX7_feud_56 (by decide) ?_
      refine lv_goto (tgt := 61) hx hb dX7_feud_57 (by decide) ?_
      exact K33 _ hF.symm _ _ hP hD hS  ls (lv_sub hl [0, 1, 2, 3, 4] rfl)
    have hF := hF.trans (if_pos c_33)
    refine lv_iconst (v := 1) hx hb dX7_feud_36 (by decide) ?_
    refine lv_goto (tgt := 61) hx hb dX7_feud_37 (by decide) ?_
    exact K33 _ hF.symm _ _ hP hD hS  ls (lv_sub hl [0, 1, 2, 3, 4] rfl)
  have hF : ((if (fX7_arePair v a) = 0 then 0 else (if (fX7_feudPlace f 0 (fX7_feudOf v a)) = (-1) then 0 else 1)) : Nat) = (if (fX7_arePair v a) = 0 then 0 else (if (fX7_feudPlace f 0 (fX7_feudOf v a)) = (-1) then 0 else 1)) := rfl
  refine lv_if_eq (tgt := 28) hx hb dX7_feud_7 (by decide) (fun c_7 => ?_) (fun c_7 => ?_)
  · have hF := hF.trans (if_pos c_7)
    refine lv_iconst (v := 0) hx hb dX7_feud_28 (by decide) ?_
    exact K7 _ hF.symm _ _ hP hD hS  ls (lv_sub hl [0, 1, 2, 3] rfl)
  have hF := hF.trans (if_neg c_7)
  refine lv_aload_n hx hb dX7_feud_10 rfl (lv_at hl 1 rfl) ?_
  refine lv_iconst (v := 0) hx hb dX7_feud_11 (by decide) ?_
  refine lv_iload_n hx hb dX7_feud_12 rfl (lv_at hl 2 rfl) ?_
  refine lv_iload_n hx hb dX7_feud_13 rfl (lv_at hl 3 rfl) ?_
  refine k_calli (W.runS (As := [.int v, .int a]) (rest := [.int 0, .ref o]) ⟨hx, hb, hml, hown, hts0⟩ (mX7_feudOf l dC dI  v a) (va_cwS 2 hts0 (gi_S u_947 u_948 u_7 u_949) rfl rfl rfl (by decide +kernel) ⟨Nat.le_of_ble_eq_true rfl, Nat.le_of_ble_eq_true rfl⟩) (pcR_S (hP.sub (ws' := []) [] rfl) (hK.sub (tys' := []) [] rfl) hn) rfl rfl hl.1 rfl (lv_room (Nat.le_of_ble_eq_true rfl)) dX7_feud_14 ⟨Nat.zero_le _, Nat.zero_le _⟩) ?_
  refine k_calli (W.runV (As := [.int 0, .int (fX7_feudOf v a)]) (rest := []) ⟨hx, hb, hml, hown, hts0⟩ (mX7_feudPlace l dC dI cI o q0 q1 f x M h 0 (fX7_feudOf v a) (by first | omega | assumption)) (cwV 2 hts0 (gi_V u_950 u_952 us_21 u_7 u_953) rfl rfl rfl (by decide +kernel) ⟨Nat.le_of_ble_eq_true rfl, Nat.le_of_ble_eq_true rfl⟩) (pcR_V (ci := 5) (q0 := 0) hP hK hn rfl rfl) rfl rfl hl.1 rfl (lv_room (Nat.le_of_ble_eq_true rfl)) dX7_feud_17 ⟨Nat.zero_le _, Nat.zero_le _⟩) ?_
  refine lv_iconst (v := (-1)) hx hb dX7_feud_20 (by decide) ?_
  refine lv_icmp_eq (tgt := 28) hx hb dX7_feud_21 (by decide) (fun c_21 => ?_) (fun c_21 => ?_)
  · have hF := hF.trans (if_pos c_21)
    refine lv_iconst (v := 0) hx hb dX7_feud_28 (by decide) ?_
    exact K7 _ hF.symm _ _ hP hD hS  ls (lv_sub hl [0, 1, 2, 3] rfl)
  have hF := hF.trans (if_neg c_21)
  refine lv_iconst (v := 1) hx hb dX7_feud_24 (by decide) ?_
  refine lv_goto (tgt := 29) hx hb dX7_feud_25 (by decide) ?_
  exact K7 _ hF.symm _ _ hP hD hS  ls (lv_sub hl [0, 1, 2, 3] rfl)
